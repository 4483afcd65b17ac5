/-! ===== the first branch that matches: the reference ===== -/
section JD
variable {l : Launch} {s0 : State} {a0 : Array Value} {G : va_G} {ca : Nat → ClassId} {d : Nat} {C : Nat × Nat} {S : zS} {t o : Int} {M : zM} {Q : Int → zM → Prop} {X : zM → Prop} {xs ys : List JR} {A B : SS} {w r : Nat}
theorem m_fst (Γ : rt_Γ l s0 a0 G ca) (hd : 150 ≤ d) (hok : zok C) (hs : zSok S) (ht : zTx S t) (hto : zTx S o) (hTA : rTx M t xs) (hTB : rTx M o ys) (hCA : rC M t xs A) (hCB : rC M o ys B) (hFA : kF A) (hFB : kF B) (hHA : kHn A) (hHB : kHn B) (hOA : kOk A) (hOB : kOk B) (hIA : kI A) (hw : w < 6 + A.ns.length) (hr : r < 6 + B.ns.length) (h8 : (nN B.ns r).kd = 8)
    (k0 : tFst A.ns B.ns w r = none → Q (-1) M) (k1 : ∀ (k : Nat) (q : SP), tFst A.ns B.ns w r = some k → (nN B.ns r).ps[k]? = some q → Q q.kn M) : zm_X11_branchFor l s0 G ca d C S t w o r M Q X := by
  have hlb := hCB.len
  refine z_X11_branchFor Γ (by omega) hok hs ?_
  unfold zt_X11_branchFor
  refine ⟨hto, ⟨by omega, by omega⟩, ?_⟩
  have gen : ∀ (w0 : rt_Wd) (rest : List SP) (k : Nat) (h : Int), (nN B.ns r).ps.drop k = rest → rCh M o ys 8 rest h → (tFstL (tMat A.ns B.ns 134 w) rest k = none → Q (-1) M) → (∀ (j : Nat) (q : SP), tFstL (tMat A.ns B.ns 134 w) rest k = some j → (nN B.ns r).ps[j]? = some q → Q q.kn M) → zg_X11_branchFor_8 l s0 G ca d C S w0 t w o h M Q X := by
    intro w0 rest
    induction rest with
    | nil =>
      intro k h hdr hc h0 h1
      have hh : h = -1 := hc
      subst hh
      refine zs_X11_branchFor_8 Γ (by omega) hok hs ?_
      unfold zt_X11_branchFor_8
      exact zIf_t (by decide) (h0 rfl)
    | cons z rest ih =>
      intro k h hdr hc h0 h1
      obtain ⟨e1, e2, e3, e4⟩ := hc
      have hz : (nN B.ns r).ps[k]? = some z := by
        have := congrArg (fun l => l[0]?) hdr
        simpa using this
      have hdr2 : (nN B.ns r).ps.drop (k + 1) = rest := by
        have := congrArg (List.drop 1) hdr
        rw [List.drop_drop] at this
        exact this
      obtain ⟨i2, i3⟩ := r_sPn hFB hr (by omega) (List.mem_of_getElem? hz) e3
      refine zs_X11_branchFor_8 Γ (by omega) hok hs ?_
      unfold zt_X11_branchFor_8
      rw [e1, w32_id (by omega) (by omega), i2]
      refine zIf_f (by omega) ⟨hto, ⟨by omega, by omega⟩, ?_⟩
      refine m_mat Γ hok hs ht hto hTA hTB hCA hCB hFA hFB hHA hHB hOA hOB hIA 134 (d - 1) _ _ _ (by omega) (by omega) (fun h67 => ?_) hw i3 ?_
      · have := nN_ge (ns := A.ns) (s := w) (by omega)
        omega
      unfold tFstL at h0 h1
      by_cases c : tMat A.ns B.ns 134 w (sPn (some z)) = true
      · rw [if_pos c] at h1
        rw [c]
        exact zIf_f (by decide) (h1 k z rfl hz)
      · rw [if_neg c] at h0 h1
        rw [Bool.not_eq_true] at c
        rw [c]
        exact zIf_t (by decide) (ih (k + 1) _ hdr2 e4 h0 h1)
  obtain ⟨-, nch, -⟩ := r_node hCB hFB hr (by omega)
  rw [h8] at nch
  exact gen (zw s0 ca C S M) (nN B.ns r).ps 0 _ rfl nch k0 k1
end JD
