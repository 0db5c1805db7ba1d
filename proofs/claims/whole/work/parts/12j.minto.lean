/-! THE MODEL CALLS: taking into a lot -/
section
variable (q : Nat × (Nat → Int)) {C : MC} {J M T : M2} {σ : St} {gs : List Gx}
/-- the lots when n litres of lot i go into lot s -/
def inL (ls : List Lt) (i s : Nat) (n : Int) : List Lt := (ls.set i ((lt ls i).1, takeG (lt ls i).2 n)).set s ((lt ls s).1, mixU (shr n (gv (lt ls i).2) (lt ls i).2.length) (lt ls i).2 (lt ls s).2 (lt ls i).2.length)
theorem w_takeInto (h : MRow (M 0) σ gs) (hm : okM σ.1) (hp : gs.Perm (flat σ.1)) {i s : Nat} (hi : i < σ.1.length) (hs : s < σ.1.length) (hne : i ≠ s) (hg : 0 < gsum (lt σ.1 i).2) {n : Int} (hn : 0 ≤ n ∧ n ≤ gsum (lt σ.1 i).2)
    (hnn : 0 ≤ (lt σ.1 s).1 0) (hdif : (lt σ.1 s).1 0 ≠ (lt σ.1 i).1 0) (hmx : okGs (mixU (shr n (gv (lt σ.1 i).2) (lt σ.1 i).2.length) (lt σ.1 i).2 (lt σ.1 s).2 (lt σ.1 i).2.length) ∧ gsum (mixU (shr n (gv (lt σ.1 i).2) (lt σ.1 i).2.length) (lt σ.1 i).2 (lt σ.1 s).2 (lt σ.1 i).2.length) ≤ 10000) (hl : gs.length + (lt σ.1 i).2.length ≤ 400) :
    ∃ J' M' gs', rs 1016 0 [vR 10 0, vI ((lt σ.1 i).1 0), vI n, vI ((lt σ.1 s).1 0), vU, vU, vU] [] (SX q, C, (J, M, T)) = some (vU, (SX q, C, (J', M', T))) ∧ MRow (M' 0) (inL σ.1 i s n, σ.2) gs' ∧ gs'.Perm (flat (inL σ.1 i s n)) ∧ okM (inL σ.1 i s n) ∧
      (∀ f y, f ≠ 213 → J' f y = J f y) ∧ ∀ r, r ≠ 0 → r ≠ 5 → r ≠ 6 → r ≠ 7 → r ≠ 8 → M' r = M r := by
  have wm : lt σ.1 i ∈ σ.1 := lt_m hi
  obtain ⟨ow, ol⟩ := hm.1 _ wm
  obtain ⟨ox, ob⟩ := hm.gx hp
  obtain ⟨J', M', gs', e, r1, r2, r3, r4, r5⟩ := w_take q (C := C) (J := J) (T := T) h ox (fun z hz => (ob z hz).2) ow (mem_lot hp hm.2 wm) ⟨hg, ol⟩ hn (into := (lt σ.1 s).1 0) (Or.inr hdif) (fun _ => hl)
  have ts := take_gsum ow hn.1 hg hn.2
  have om := hm.set hi (w := ((lt σ.1 i).1, takeG (lt σ.1 i).2 n)) rfl ⟨ow.take n, by show gsum (takeG (lt σ.1 i).2 n) ≤ 10000; omega⟩
  have ln : (σ.1.set i ((lt σ.1 i).1, takeG (lt σ.1 i).2 n)).length = σ.1.length := by simp
  have ls2 : lt (σ.1.set i ((lt σ.1 i).1, takeG (lt σ.1 i).2 n)) s = lt σ.1 s := by rw [lt_set hi, if_neg (fun z => hne z.symm)]
  have om2 := om.set (i := s) (by omega) (w := ((lt σ.1 s).1, mixU (shr n (gv (lt σ.1 i).2) (lt σ.1 i).2.length) (lt σ.1 i).2 (lt σ.1 s).2 (lt σ.1 i).2.length)) (by rw [ls2]) hmx
  have pr : ∀ j, j < (lt σ.1 i).2.length → 0 ≤ shr n (gv (lt σ.1 i).2) (lt σ.1 i).2.length j := fun j hj => (shr_r hn.1 ow.nn (by rw [← gsum_sumU]; exact hg) hj).1
  refine ⟨J', M', gs', e, r1.lots (by unfold inL; simp) (fun j hj => ?_), perm_of_val r2 (flat_ok (fun w hw => (om2.1 w hw).1) om2.2) (fun a k => ?_), om2, r4, r5⟩
  · unfold inL
    rw [lt_set (by omega)]
    split
    · rename_i z; rw [z]
    · rw [lt_set hi]
      split
      · rename_i z; rw [z]
      · rfl
  · unfold inL
    rw [r3, val_perm hp, val_flat, val_flat, lval_set (i := s) (w := ((lt σ.1 s).1, mixU (shr n (gv (lt σ.1 i).2) (lt σ.1 i).2.length) (lt σ.1 i).2 (lt σ.1 s).2 (lt σ.1 i).2.length)) (by omega) (by rw [ls2]), lval_set (w := ((lt σ.1 i).1, takeG (lt σ.1 i).2 n)) hi rfl, ls2]
    show _ = _ + (if (lt σ.1 i).1 0 = a then gfun (takeG (lt σ.1 i).2 n) k - gfun (lt σ.1 i).2 k else 0) + (if (lt σ.1 s).1 0 = a then gfun (mixU (shr n (gv (lt σ.1 i).2) (lt σ.1 i).2.length) (lt σ.1 i).2 (lt σ.1 s).2 (lt σ.1 i).2.length) k - gfun (lt σ.1 s).2 k else 0)
    rw [gfun_take ow hn hg k, gfun_mix k pr]
    show _ = _ + _ + (if (lt σ.1 s).1 0 = a then gfun (lt σ.1 s).2 k + pkG (lt σ.1 i).2 n k - gfun (lt σ.1 s).2 k else 0)
    repeat' split
    all_goals omega
end
