/-! ===== told, its fields free ===== -/
def ztd_X7_told (l : Launch) (s0 : State) (G : va_G) (ca : Nat → ClassId) (d : Nat) (C : Nat × Nat) (S : zS) (w0 : rt_Wd)   (M : zM) (Q : Int → zM → Prop) (X : zM → Prop) : Prop :=
  Q 57 M
set_option maxRecDepth 100000 in
theorem zd_X7_told {l : Launch} {s0 : State} {a0 : Array Value} {G : va_G} {ca : Nat → ClassId} (Γ : rt_Γ l s0 a0 G ca) {d : Nat} {C : Nat × Nat} {S : zS} (hok : zok C)  (hs : zSok S) (hs56 : S 56 = some (0, 7, [(3, 57), (3, 59), (3, 61), (3, 63), (3, 65), (3, 67), (2, 0), (2, 0), (2, 0), (0, 0), (0, 0), (0, 0)]))  {M : zM} {Q : Int → zM → Prop} {X : zM → Prop} (h : ztd_X7_told l s0 G ca d C S (zw s0 ca C S M)   M Q X) : zm_X7_told l s0 G ca d C S   M Q X := by
  refine z_met (lv := [(0, zv s0 2 56)]) Γ kk_X7_told rfl (show (lg_sl [zv s0 2 56]).length ≤ 1 from by simp only [zn_2, show (lg_sl []).length = 0 from rfl]; omega) (show lv_args 0 [zv s0 2 56] = [(0, zv s0 2 56)] from by rw [zl_2]; rfl) ?_
  unfold ztd_X7_told at h
  refine z_aload_n dX7_told_0 rfl (j := 0) rfl ?_
  refine z_getc Γ kf_RX7_14 dX7_told_1 (by decide) hs56 rfl ?_
  exact z_aret dX7_told_4 rfl h
