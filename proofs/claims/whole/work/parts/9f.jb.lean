/-! ===== the first branch that matches: the class ===== -/
def tFstL (f : Nat → Bool) : List SP → Nat → Option Nat
  | [], _ => none
  | q :: r, k => if f (sPn (some q)) = true then some k else tFstL f r (k + 1)
def tFst (A B : List SN) (w r : Nat) : Option Nat := tFstL (tMat A B 134 w) (nN B r).ps 0
section JB
variable {l : Launch} {s0 : State} {a0 : Array Value} {G : va_G} {ca : Nat → ClassId} {d : Nat} {C : Nat × Nat} {S : zS} {p q : Int} {M : zM} {Q : Int → zM → Prop} {X : zM → Prop} {NU NV : Nat} {A B : SS} {w r : Nat}
theorem c_fst (Γ : rt_Γ l s0 a0 G ca) (hd : 6 ≤ d) (hok : zok C) (hp : zSc S p) (hq : zSc S q) (hGA : gC M p NU A) (hGB : gC M q NV B) (hFA : kF A) (hFB : kF B) (hHA : kHn A) (hHB : kHn B) (hOA : kOk A) (hOB : kOk B) (hw : w < 6 + A.ns.length) (hr : r < 6 + B.ns.length) (h8 : (nN B.ns r).kd = 8) (hQ : Q (oI (tFst A.ns B.ns w r)) M) : zm_X6_firstMatch l s0 G ca d C S p w q r M Q X := by
  refine z_X6_firstMatch Γ (by omega) hok ?_
  unfold zt_X6_firstMatch
  have l2 := (g_len hGB hFB hr (by omega)).2
  have gen : ∀ (w0 : rt_Wd) (rest : List SP) (k : Nat), (nN B.ns r).ps.drop k = rest → k ≤ (nN B.ns r).ps.length → Q (oI (tFstL (tMat A.ns B.ns 134 w) rest k)) M → zg_X6_firstMatch_3 l s0 G ca d C S w0 p w q r k M Q X := by
    intro w0 rest
    induction rest with
    | nil =>
      intro k hdr hkl hh
      have hlen : (nN B.ns r).ps.length ≤ k := by
        have := congrArg List.length hdr
        rw [List.length_drop, List.length_nil] at this
        omega
      refine zs_X6_firstMatch_3 Γ (by omega) hok ?_
      unfold zt_X6_firstMatch_3
      rw [(g_len hGB hFB hr (by omega)).1, w32_id (by omega) (by omega), w32_id (by omega) (by omega)]
      exact ⟨hq, zIf_t (by omega) hh⟩
    | cons z rest ih =>
      intro k hdr hkl hh
      have hz : (nN B.ns r).ps[k]? = some z := by
        have := congrArg (fun l => l[0]?) hdr
        simpa using this
      have hdr2 : (nN B.ns r).ps.drop (k + 1) = rest := by
        have := congrArg (List.drop 1) hdr
        rw [List.drop_drop] at this
        exact this
      have hkl2 := (List.getElem?_eq_some_iff.mp hz).1
      have b2 := (g_brk hGB hFB hr h8 hz).2
      refine zs_X6_firstMatch_3 Γ (by omega) hok ?_
      unfold zt_X6_firstMatch_3
      rw [(g_len hGB hFB hr (by omega)).1, w32_id (x := (((nN B.ns r).ps.length : Nat) : Int)) (by omega) (by omega), w32_id (x := (k : Int)) (by omega) (by omega), (g_brk hGB hFB hr h8 hz).1]
      refine ⟨hq, zIf_f (by omega) ?_⟩
      refine c_mat Γ (by omega) hok hp hq hGA hGB hFA hFB hHA hHB hOA hOB hw b2 ?_
      unfold tFstL at hh
      by_cases c : tMat A.ns B.ns 134 w (sPn (some z)) = true
      · rw [if_pos c] at hh
        rw [c]
        exact zIf_f (by decide) hh
      · rw [if_neg c] at hh
        rw [Bool.not_eq_true] at c
        rw [c]
        refine zIf_t (by decide) ?_
        rw [show (k : Int) + 1 = ((k + 1 : Nat) : Int) by omega]
        exact ih (k + 1) hdr2 (by omega) hh
  exact gen (zw s0 ca C S M) (nN B.ns r).ps 0 rfl (Nat.zero_le _) hQ
end JB
