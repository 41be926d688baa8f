/-! rows of fields and calls, with the heap's size told -/
section AmRows
variable {p : Program} {l : Launch} {e : Env} {R : Room} {s : State} {m : MethodId} {args : Array Value} {below : List Frame} {meth : Method} {c : Code} {H : Heap} {locs : List Loc} {cells slots : Nat} {Q : State → Prop} {cc : ByteArray} {pc : Nat} {ls : Array Slot} {rest : List Value} {D : va_G} {cl : List vw_C} {a : Nat} {tys : List (ClassId × FieldType)}
theorem am_putK (hexec : p.tables.exec = Jvm.exec) (hb : c.code = cc) {own ref C : String} {T : u_T} {N ci index : Nat} {Ts : List Cond} (hts : ∀ w ∈ Ts, w.before args s = true) (hin : ∀ w ∈ u_ws C T N, w ∈ Ts) (ty0 : Nat → FieldType) (hty : ∀ k, k < N → parseFieldDescriptor (T k).2.2.1 = some (ty0 k)) (hnm : ∀ a, a < N → ∀ b, b < N → a ≠ b → (T a).2.1 ≠ (T b).2.1) (hown : s.vm.findClass own = some m.cls) (hK : va_K D cl tys s) {fs : List Value} (hat : va_at D cl (a, .inr (ci, fs)) H) (hc : cl[ci]? = some (C, T, N)) (k : Nat) (hk : k < N)
    (hlink : (Cond.fieldLink own index ref (T k).2.1 (T k).2.2.1).before args s = true ∨ ∃ host, (Cond.fieldLinkNest own index ref (T k).2.1 (T k).2.2.1 host).before args s = true) (hsame : ∀ x, s.fieldFound? (T k).1 (T k).2.1 (T k).2.2.1 = some x → s.fieldFound? ref (T k).2.1 (T k).2.2.1 = some x) (hfin : (T k).2.2.2 = false) {ty : FieldType} {v : Value} (hd : parseFieldDescriptor (T k).2.2.1 = some ty) (hn : narrow ty v = v) (hfit : fits ty v = true) (hl : k < fs.length) (hdg : decode cc pc = .ok (.putfield index, 3))
    (kk : ∀ (H1 : Heap) (i : Nat), H1.size = H.size → (∀ q : Nat, q ≠ a → H1[q]? = H[q]?) → va_at D cl (a, .inr (ci, fs.set k v)) H1 → W p l e R s m args below meth c H1 (locs ++ [⟨a, i⟩]) cells slots Q (F0 m (pc + 3) ls rest)) : W p l e R s m args below meth c H locs cells slots Q (F0 m pc ls (v :: .ref a :: rest)) := by
  have hap := va_apart (own := own) hts hin ty0 hty hnm hK hc
  obtain ⟨r, h1, cell, q1, q2, q3, q4⟩ := hat
  have hr : r = (C, T, N) := Option.some.inj (h1.symm.trans hc)
  subst hr
  obtain ⟨hS, hfc, kC, hkC, hkind⟩ := hK.1 ci _ hc
  obtain ⟨cf, kf, fi, f, hi, hsl⟩ := hS k hk
  have hlay := hts _ (hin _ (u_in_lay hk))
  unfold u_lay at hlay
  rw [if_neg (by rw [hfin]; decide)] at hlay
  have hst := (u_facts hfc hkC (u_lays hts hin hk) hi).1
  have h6 := u_store hfc hkC hkind hlay hi hd hn hfit
  have fin : ∀ H' : Heap, H'[a]? = some (cell.setSlot f.slot v) → H'.size = H.size → (∀ q, q ≠ a → H'[q]? = H[q]?) → W p l e R s m args below meth c H' (locs ++ [⟨a, f.slot⟩]) cells slots Q (F0 m (pc + 3) ls rest) := fun H' e1 e2 e3 => by
    rw [hsl] at e1 ⊢
    exact kk H' _ e2 e3 ⟨_, hc, t_OB.to (V := updV (vp_V fs) k v) ⟨_, e1, q2, q3, t_set q4 hap hk v⟩ (fun j _ => vp_updV_set hl v j)⟩
  rcases hlink with hlink | ⟨host, hlink⟩
  · exact W.putK hexec hb (f := f) ⟨hown, hlink, ⟨_, _, _, hsame _ hi⟩, hst⟩ (by rw [q2]; exact h6) q1 q3 (by rw [hsl]; exact k2_hasslot (q4 k hk)) rfl rfl hdg fin
  · exact va_WputK hexec hb (f := f) hown hlink (hsame _ hi) hst (by rw [q2]; exact h6) q1 q3 (by rw [hsl]; exact k2_hasslot (q4 k hk)) rfl rfl hdg fin
theorem am_putF (hexec : p.tables.exec = Jvm.exec) (hb : c.code = cc) {own ref C : String} {T : u_T} {N ci index : Nat} {Ts : List Cond} (hts : ∀ w ∈ Ts, w.before args s = true) (hin : ∀ w ∈ u_ws C T N, w ∈ Ts) (ty0 : Nat → FieldType) (hty : ∀ k, k < N → parseFieldDescriptor (T k).2.2.1 = some (ty0 k)) (hnm : ∀ a, a < N → ∀ b, b < N → a ≠ b → (T a).2.1 ≠ (T b).2.1) (hown : s.vm.findClass own = some m.cls) (hK : va_K D cl tys s) {fs : List Value} (hat : va_at D cl (a, .inr (ci, fs)) H) (hc : cl[ci]? = some (C, T, N)) (k : Nat) (hk : k < N)
    (hlink : (Cond.fieldLink own index ref (T k).2.1 (T k).2.2.1).before args s = true) (hsame : ∀ x, s.fieldFound? (T k).1 (T k).2.1 (T k).2.2.1 = some x → s.fieldFound? ref (T k).2.1 (T k).2.2.1 = some x) (hfin : (T k).2.2.2 = true) (hin2 : meth.name = "<init>") (hdecl : (T k).1 = own) {ty : FieldType} {v : Value} (hd : parseFieldDescriptor (T k).2.2.1 = some ty) (hn : narrow ty v = v) (hfit : fits ty v = true) (hl : k < fs.length) (hdg : decode cc pc = .ok (.putfield index, 3))
    (kk : ∀ (H1 : Heap) (i : Nat), H1.size = H.size → (∀ q : Nat, q ≠ a → H1[q]? = H[q]?) → va_at D cl (a, .inr (ci, fs.set k v)) H1 → W p l e R s m args below meth c H1 (locs ++ [⟨a, i⟩]) cells slots Q (F0 m (pc + 3) ls rest)) : W p l e R s m args below meth c H locs cells slots Q (F0 m pc ls (v :: .ref a :: rest)) := by
  have hap := va_apart (own := own) hts hin ty0 hty hnm hK hc
  obtain ⟨r, h1, cell, q1, q2, q3, q4⟩ := hat
  have hr : r = (C, T, N) := Option.some.inj (h1.symm.trans hc)
  subst hr
  obtain ⟨hS, hfc, kC, hkC, hkind⟩ := hK.1 ci _ hc
  obtain ⟨cf, kf, fi, f, hi, hsl⟩ := hS k hk
  have hlay := hts _ (hin _ (u_in_lay hk))
  unfold u_lay at hlay
  rw [if_pos hfin] at hlay
  have hst := (u_facts hfc hkC (u_lays hts hin hk) hi).1
  have hcf : m.cls = cf := by
    obtain ⟨_, _, c', _, _, _, -, -, hf', -, -, -, hown2, -⟩ := Cond.laysFinal_spec hlay
    have e1 : c' = cf := by have := hi.symm.trans hf'; simp at this; exact this.1.symm
    rw [hdecl] at hown2
    rw [← e1]; exact Option.some.inj (hown.symm.trans hown2)
  have h6 := u_fits hfc hkC hkind (Or.inr hlay) hi hd hn hfit
  refine W.putFinK hexec hb hown hlink (hsame _ hi) hst hcf hin2 (by rw [q2]; exact h6) q1 q3 (by rw [hsl]; exact k2_hasslot (q4 k hk)) rfl rfl hdg fun H' e1 e2 e3 => ?_
  rw [hsl] at e1 ⊢
  exact kk H' _ e2 e3 ⟨_, hc, t_OB.to (V := updV (vp_V fs) k v) ⟨_, e1, q2, q3, t_set q4 hap hk v⟩ (fun j _ => vp_updV_set hl v j)⟩
/-- a call's end, for the abstract machine's own post -/
def QcX (zb b L : Nat) (xs : Nat → Int32) (D : va_G) (cs : Nat → ClassId) (Q' : Post) : Array Value → State → Outcome → State → Prop := fun _ st oc t =>
  ∃ (o : Option V) (n' : Int) (M' : Mem), oc = .returned (o.map (cnc zb b)) ∧ Q' o n' M' ∧ World zb L xs D cs M' n' t.heap ∧ va_F (AWz zb) st t
def PcX (zb b L : Nat) (xs : Nat → Int32) (D : va_G) (cs : Nat → ClassId) (as : List V) (n : Int) (M : Mem) : Array Value → State → Prop := fun v U =>
  v = (as.map (cnc zb b)).toArray ∧ SW zb b L xs D cs U ∧ World zb L xs D cs M n U.heap
theorem am_back {zb b L : Nat} {xs : Nat → Int32} {D : va_G} {cs : Nat → ClassId} {Q' : Post} {av : Array Value} {mc ms : Nat} {st0 : List Value}
    (hr : va_Run p l e R s m args below meth c H locs cells slots mc ms (F0 m pc ls st0) rest (QcX zb b L xs D cs Q' av) (AWz zb)) (hS : va_S (AWz zb) s.heap H locs)
    (kk : ∀ (o : Option V) (n' : Int) (M' : Mem) (H1 : Heap) (locs1 : List Loc), Q' o n' M' → World zb L xs D cs M' n' H1 → va_S (AWz zb) s.heap H1 locs1 → W p l e R s m args below meth c H1 locs1 (cells + mc) (slots + ms) Q (F0 m (pc + 3) ls (o.toList.map (cnc zb b) ++ rest))) : W p l e R s m args below meth c H locs cells slots Q (F0 m pc ls st0) := by
  intro T hT X
  obtain ⟨v, st₀, t, T', L', h0, X', hL, e1, e2, ⟨o, n', M', hv, hq, hWd, hz, hk⟩, st⟩ := hr T hT X
  have hv2 : v = o.map (cnc zb b) := by injection hv
  subst hv2
  rw [h0] at hz hk
  obtain ⟨t2, a1, b1⟩ := kk o n' M' T'.heap (locs ++ L') hq (by rw [e1]; exact hWd)
    ⟨Nat.le_trans hS.1 (by rw [e1]; exact hz), fun q h1 h2 => by rw [e1, hk q (Nat.lt_of_lt_of_le h1 hS.1) h2]; exact hS.2.1 q h1 h2, fun q hq => by
      rcases List.mem_append.mp hq with h | h
      · exact hS.2.2 q h
      · exact hL q h⟩ T' rfl X'
  refine ⟨t2, st t2 ?_, b1⟩
  have e3 : (o.map (cnc zb b)).toList = o.toList.map (cnc zb b) := by cases o <;> rfl
  rw [e3]
  exact a1
end AmRows
def tblG : List Cond := lw_tbl.filter goodWord
def wsY (m : Nat) : List Cond := .code (am_M m).2.1 (am_M m).2.2.1 (am_M m).2.2.2.1 (am_M m).2.2.2.2.1 :: tblG
theorem tblG_mem {w : Cond} (h : w ∈ tables_1) (hg : goodWord w = true) : w ∈ tblG := List.mem_filter.mpr ⟨List.mem_append_right _ h, hg⟩
theorem tblG_good {ws : List Cond} (h : ∀ w ∈ ws, w ∈ tblG) : GoodIn tblG ws := fun w hw => ⟨h w hw, good_of_word (List.mem_filter.mp (h w hw)).2⟩
theorem am_over {s U : State} (hvm : s.vm.Alike U.vm) (h : va_Nw (.arrayOver (.array .int)) s) : va_Nw (.arrayOver (.array .int)) U := by
  have h2 : (Cond.arrayOver (.array .int)).before #[] (s.setVm U.vm) = true := by rw [Cond.arrayOver_setVmC hvm]; exact h
  exact h2
theorem SW_moved {zb b L : Nat} {xs : Nat → Int32} {D : va_G} {cs : Nat → ClassId} {s U : State} {H : Heap} {locs : List Loc} (hW : s.WarmedH U.vm) (hU : U.heap = H) (hS : va_S (AWz zb) s.heap H locs) (h : SW zb b L xs D cs s) : SW zb b L xs D cs U := by
  obtain ⟨h1, h2, h3, h4, h5, h6, h7, h8⟩ := h
  refine ⟨va_K.moved hW.alike h1, fun w hw hn => ?_, va_AO.moved hW.alike h3, am_over hW.alike h4, ?_, h6, by rw [hU]; exact Nat.le_trans h7 hS.1, h8⟩
  · have := h2 w hw hn
    cases w with
    | fieldLinkNest a i b n d h => exact va_Nw.warmF hW this
    | methodLinkNest a i x h => exact va_Nw.warmM hW this
    | _ => cases hn
  · rw [hU]
    exact va_X.moved hW.alike (h5.kept (hS.2.1 b (by omega) (by show ¬ zb < b; omega)))
theorem SW_calling {zb b L : Nat} {xs : Nat → Int32} {D : va_G} {cs : Nat → ClassId} {U : State} {g : JFrame} {mk : MethodId} {a : Array Value} (h : SW zb b L xs D cs U) : SW zb b L xs D cs (U.calling g mk a) := by
  obtain ⟨h1, h2, h3, h4, h5, h6, h7, h8⟩ := h
  refine ⟨va_K.moved (u := U) (U := U.calling g mk a) (Vm.Alike.refl U.vm) h1, fun w hw hn => ?_, va_AO.moved (u := U) (U := U.calling g mk a) (Vm.Alike.refl U.vm) h3, am_over (s := U) (U := U.calling g mk a) (Vm.Alike.refl U.vm) h4, va_X.moved (u := U) (U := U.calling g mk a) (Vm.Alike.refl U.vm) h5, h6, h7, h8⟩
  have := h2 w hw hn
  cases w with
  | fieldLinkNest a i b n d h => exact va_Nw.same rfl rfl this
  | methodLinkNest a i x h => exact va_Nw.same rfl rfl this
  | _ => cases hn
theorem MOK_of {m w kd : Nat} (h : (m, w, kd) ∈ lkY_L) : MOK (m, w, kd) := lkY_ok _ h
/-- a method's contract out of its abstract run -/
theorem met_of {zb b L : Nat} {xs : Nat → Int32} {D : va_G} {cs : Nat → ClassId} (l : Launch) {m w kd : Nat} (hY : (m, w, kd) ∈ lkY_L) (hm : m < NMT) {as : List V} {n : Int} {M : Mem} {Q' : Post} (has : wsm as ≤ (am_M m).2.2.2.1)
    (h : SX zb b L xs D cs m (0, 0) 0 (entL (am_M m).2.2.2.1 as) [] n M Q') :
    Met l (am_M m).2.1 (wsY m) (rmM m) (PcX zb b L xs D cs as n M) (QcX zb b L xs D cs Q') (rmM m).cells (rmM m).slots (AWz zb) := by
  have hk := MOK_of hY
  unfold MOK at hk
  dsimp only at hk
  obtain ⟨-, -, ⟨hpl, -, -, -, hcn⟩, -⟩ := hk
  refine Met.ofW (cc := (am_M m).2.2.1) (maxL := (am_M m).2.2.2.1) (ret := (am_M m).2.2.2.2.1) hpl rfl ?_
  intro p e s mid args below meth c s₁ B hml hv
  obtain ⟨rfl, hSW, hWd⟩ := hv
  have hts := atoms_spec (ws := wsY m) B.pre
  have hown : s.vm.findClass (am_M m).2.1.cls = some mid.cls := findClass_of_methodNamed B.named
  have hlocks := B.notSynchronized
  have hname : meth.name = (am_M m).2.1.name := (name_of_methodNamed B.named B.method).1
  rw [lg_entry_eq]
  refine h hm p l e s mid _ below meth c s.heap [] _ (MQ below (QcX zb b L xs D cs Q') _ s (rmM m).cells (rmM m).slots (AWz zb)) ⟨B.exec, B.bytes, hml, B.returns, hlocks, by rw [hcn]; exact hown, hname, fun w hw hg => hts w (List.mem_cons_of_mem _ (List.mem_filter.mpr ⟨hw, hg⟩))⟩ hSW hWd va_S.rf (LocR.entry has) (Nat.zero_le _) (Nat.zero_le _) ?_
  intro o n' M' H' locs' k' lc' pc' hq hWd' hS' hk1 hk2 hR
  refine W.widen hk1 hk2 ?_
  rcases hR with ⟨x, rfl, hd, hr⟩ | ⟨x, rfl, hd, hr⟩ | ⟨rfl, hd, hr⟩
  · have hn : ∃ ty, (am_M m).2.2.2.2.1 = some ty ∧ narrow ty (.int (Int32.ofInt x)) = .int (Int32.ofInt x) := by
      rcases hr with hr | ⟨hr, h01⟩
      · exact ⟨_, hr, rfl⟩
      · refine ⟨_, hr, ?_⟩
        rcases h01 with rfl | rfl <;> rfl
    obtain ⟨ty, hty, hn⟩ := hn
    exact W.zret B.exec B.bytes (B.returns.trans hty) hn (fun t ht hW => ⟨some (0, x), n', M', rfl, hq, by rw [ht]; exact hWd', hS'.F ht⟩) hS'.2.2 hd
  · exact W.lret B.exec B.bytes (B.returns.trans hr) (fun t ht hW => ⟨some (1, x), n', M', rfl, hq, by rw [ht]; exact hWd', hS'.F ht⟩) hS'.2.2 hd
  · exact W.vret B.exec B.bytes (B.returns.trans hr) (fun t ht hW => ⟨none, n', M', rfl, hq, by rw [ht]; exact hWd', hS'.F ht⟩) hS'.2.2 hd
