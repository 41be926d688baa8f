/-! THE SCRIPT STAYS: whatever runs, the script's places are as they were -/
def FrS (M M' : Mem) : Prop := M' 0 = M 0 ∧ M' (-1) = M (-1)
theorem FrS.rf (M : Mem) : FrS M M := ⟨rfl, rfl⟩
theorem FrS.tr {M M' M'' : Mem} (h1 : FrS M M') (h2 : FrS M' M'') : FrS M M'' := ⟨h2.1.trans h1.1, h2.2.trans h1.2⟩
theorem kd_1 {n a : Int} (h : kd n a ≠ 0) : 1 ≤ a := by
  rcases Int.lt_or_le 0 a with q | q
  · omega
  · exfalso
    apply h
    unfold kd
    split
    · exact KD_np q
    · rfl
theorem frs_us {M : Mem} {n a i x c : Int} (h : kd n a = c) (hc : c ≠ 0) : FrS M (ust M a i x) := by
  have := kd_1 (n := n) (a := a) (by rw [h]; exact hc)
  exact ⟨ust_ne (by omega), ust_ne (by omega)⟩
theorem frs_zro {M : Mem} {n : Int} (h : 1 ≤ n) : FrS M (zro M n) := ⟨zro_o (by omega), zro_o (by omega)⟩
theorem frs_mna {M : Mem} {n a : Int} (h : 1 ≤ n) : FrS M (mna M n a) := ⟨mna_o (Or.inl (by omega)), mna_o (Or.inl (by omega))⟩
theorem and_imp2 {a b c : Prop} (h : a → b → c) : a ∧ b → a ∧ c := fun q => ⟨q.1, h q.1 q.2⟩
def pfk (e : En) : Bool := match e with
  | (_, i, _, _, _, z, _, _) => match i with
    | .putfield _ => decide (z ≠ 0)
    | _ => true
set_option maxHeartbeats 8000000 in
theorem wpI_fr {e : En} {k : Nat × Nat} {ls st : List V} {n : Int} {M : Mem} {N N' : (Nat × Nat) → List V → List V → Int → Mem → Prop} {J J' : Nat → List V → List V → Int → Mem → Prop} {C C' : Nat → List V → Int → Mem → Post → Prop} {Q Q' : Post} (hz : pfk e = true) (hn : 1 ≤ n)
    (hN : ∀ k ls st n' M', 1 ≤ n' → FrS M M' → N k ls st n' M' → N' k ls st n' M') (hJ : ∀ t ls st, J t ls st n M → J' t ls st n M) (hC : ∀ m ls (Q Q' : Post), (∀ o n' M', 1 ≤ n' → FrS M M' → Q o n' M' → Q' o n' M') → C m ls n M Q → C' m ls n M Q') (hQ : ∀ o, Q o n M → Q' o n M)
    (h : wpI e k ls st n M N J C Q) : wpI e k ls st n M N' J' C' Q' := by
  obtain ⟨pc, i, len, x, w, z, y, tg⟩ := e
  revert h
  unfold pfk at hz
  dsimp only at hz
  unfold wpI
  dsimp only
  split <;> repeat' (first | exact id | exact hN _ _ _ _ _ hn (FrS.rf M) | exact hJ _ _ _ | exact hQ _ | exact hC _ _ _ _ (fun o n' M' g1 g2 => hN _ _ _ _ _ g1 g2) | exact hN _ _ _ _ _ hn (frs_us (by assumption) (by decide)) | exact hN _ _ _ _ _ hn (frs_us (by assumption) (of_decide_eq_true hz)) | exact hN _ _ _ _ _ (by omega) (frs_zro hn) | exact hN _ _ _ _ _ (by omega) (frs_mna hn) | refine and_imp2 (fun _ => ?_) | refine ite_imp ?_ ?_ | split)
theorem pf_tab : (List.range 248).all (fun m => (ents m).all pfk) = true := by decide +kernel
theorem pf_is {m pc : Nat} {e : En} (h : fet m pc = some e) : pfk e = true := by
  have he : e ∈ ents m := List.mem_of_find?_eq_some h
  rcases Nat.lt_or_ge m 248 with q | q
  · exact List.all_eq_true.mp (List.all_eq_true.mp pf_tab m (List.mem_range.mpr q)) e he
  · have hl : am_bk.length = 248 := am_len
    unfold ents at he
    rw [List.getD_eq_getElem?_getD, List.getElem?_eq_none (by omega)] at he
    cases he
theorem WP.fr {m : Nat} {k : Nat × Nat} {pc : Nat} {ls st : List V} {n : Int} {M : Mem} {Q : Post} (hn : 1 ≤ n) (h : WP m k pc ls st n M (fun o n' M' => FrS M M' → Q o n' M')) : WP m k pc ls st n M Q := by
  intro X hM hC
  let X' : Xt := fun m k pc ls st n M P => 1 ≤ n → ∀ M0, FrS M0 M → ∀ Q : Post, (∀ o n' M', 1 ≤ n' → FrS M0 M' → P o n' M' → Q o n' M') → X m k pc ls st n M Q
  have hM' : Mon X' := fun m k pc ls st n M P P' hp hx hn M0 hF Q hPQ => hx hn M0 hF Q (fun o n' M' g0 g h => hPQ o n' M' g0 g (hp o n' M' h))
  have hC' : Clo X' := fun m k pc ls st n M P e he hw hn M0 hF Q hPQ => by
    refine hC m k pc ls st n M Q e he ?_
    exact wpI_fr (pf_is he) hn (fun k ls st n' M' g1 g2 hx => hx g1 M0 (hF.tr g2) Q hPQ) (fun t ls st hx => hx hn M0 hF Q hPQ) (fun m ls Q1 Q2 hq hx => hx hn M (FrS.rf M) Q2 (fun o n' M' g0 g1 g2 => hq o n' M' g0 g1 g2)) (fun o hx => hPQ o n M hn hF hx) hw
  exact h X' hM' hC' hn M (FrS.rf M) Q (fun o n' M' _ g1 g2 => g2 g1)
