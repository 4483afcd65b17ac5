/-! ===== wrongPlace, fields free ===== -/
def ztd_X4_wrongPlace (l : Launch) (s0 : State) (G : va_G) (ca : Nat → ClassId) (d : Nat) (C : Nat × Nat) (S : zS) (w0 : rt_Wd)   (M : zM) (Q : Int → zM → Prop) (X : zM → Prop) : Prop :=
  Q (M 55 7) M
set_option maxRecDepth 100000 in
theorem zd_X4_wrongPlace {l : Launch} {s0 : State} {a0 : Array Value} {G : va_G} {ca : Nat → ClassId} (Γ : rt_Γ l s0 a0 G ca) {d : Nat} {C : Nat × Nat} {S : zS} (hok : zok C)  (hs : zSok S) (hs55 : S 55 = some (0, 4, [(2, 0), (2, 0), (2, 0), (0, 0), (0, 0), (0, 0), (0, 0), (0, 0)]))  {M : zM} {Q : Int → zM → Prop} {X : zM → Prop} (h : ztd_X4_wrongPlace l s0 G ca d C S (zw s0 ca C S M)   M Q X) : zm_X4_wrongPlace l s0 G ca d C S   M Q X := by
  refine z_met (lv := [(0, zv s0 2 55)]) Γ kk_X4_wrongPlace rfl (show (lg_sl [zv s0 2 55]).length ≤ 1 from by simp only [zn_2, show (lg_sl []).length = 0 from rfl]; omega) (show lv_args 0 [zv s0 2 55] = [(0, zv s0 2 55)] from by rw [zl_2]; rfl) ?_
  unfold ztd_X4_wrongPlace at h
  refine z_aload_n dX4_wrongPlace_0 rfl (j := 0) rfl ?_
  refine z_get Γ kf_RX4_9 dX4_wrongPlace_1 (by decide) hs55 rfl (by decide) (v9 := M 55 7) rfl ?_
  exact z_iret dX4_wrongPlace_4 rfl h
