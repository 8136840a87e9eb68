/-! THE LAW'S END (the skeleton's text), and the law's run out of my machine's -/
def R_law : String := "AgainstFeatherLaw"
def lw_P (b : Addr) (xs : List Int32) (args : Array Value) (s : State) : Prop := args = #[.ref b] ∧ s.IntsAt b xs ∧ xs.length ≤ 3072 ∧ (Jvm.Cond.and given_1 narrow_1).before args s = true
def lw_Q (_ : Array Value) (s : State) (o : Outcome) (t : State) : Prop := o = .returned (some (.int 1)) ∧ Framed s o t [] 600000 7302250
def lw_Z (below : List Frame) (a : Array Value) (s : State) : State → Prop := fun t => ∃ o, t.status = .running ∧ Ended t below o ∧ lw_Q a s o t
/-- the law's own end, with 1 on the stack, nothing written that was there before, its room as the claim has it -/
theorem lw_ret {p : Program} {l : Launch} {e : Env} {s : State} {m : MethodId} {below : List Frame} {meth : Method} {c : Code} {b : Nat} (hx : p.tables.exec = Jvm.exec) (hb : c.code = code) (hr : meth.sig.returnType = ret) (hlocks : meth.locks = false) {pc : Nat} {H : Heap} {ls : Array Slot} (hdg : decode code pc = .ok (.ireturn, 1)) : W p l e room_1 s m #[Value.ref b] below meth c H [] 600000 7302250 (lw_Z below #[Value.ref b] s) (F0 m pc ls [.int 1]) := by
  intro T hT X
  obtain ⟨fs, hret, hrun, hended, hW, hframe⟩ := X.leave (v := some (.int 1)) (hlocks := hlocks) (fun h => by rw [hr] at h; cases h)
  have hmeth' : T.vm.method? m = some meth := X.method'
  refine ⟨T.setFrames fs, ?_, .returned (some (.int 1)), hrun, hended, rfl, ⟨_, rfl⟩, hW, hframe⟩
  jvm_step X.here [X.here.top, hx, hb, hdg, hmeth', hr, ret, narrow_b1]
  (try refine ⟨rfl, ?_⟩); (try refine ⟨rfl, ?_⟩)
  first | (intro acts; rw [hret _ acts rfl rfl rfl]) | rw [hret _ _ rfl rfl rfl]
  exact Steps.refl _
/-- what holds at the law's entry: the machine, the code, the tables' words (any of lw_tbl by 'hts w (by decide +kernel)'), the script of L ints xs at the cell b, what the Statement gives of the start (any of its parts by flat_of_before) -/
def lw_At (p : Program) (s : State) (m : MethodId) (meth : Method) (c : Code) (b L : Nat) (xs : Nat → Int32) : Prop :=
  p.tables.exec = Jvm.exec ∧ c.code = code ∧ meth.sig.returnType = ret ∧ c.maxLocals = 4 ∧ s.vm.findClass R_law = some m.cls ∧ (∀ w ∈ lw_tbl, w.before #[Value.ref b] s = true) ∧ va_X b L xs s s.heap ∧ b < s.heap.size ∧ meth.locks = false ∧ (Jvm.Cond.and given_1 narrow_1).before #[Value.ref b] s = true
noncomputable section
def M0 (L : Nat) (f : Int → Int) : AM := (fun a i => if a = 1 then f i else 0, fun _ _ => 0, [(99, 0), (55, (L : Int))])
/-- what is to be shown of my machine -/
def LawGoes : Prop := ∀ (L : Nat) (f : Int → Int), L ≤ 3072 → (∀ j, r32 (f j)) → ∃ (n d : Nat) (M' : AM), d ≤ 1300 ∧ wpF n d 0 0 [(2, 1), aU, aU, aU] [] (M0 L f) (fun x y => x = (0, 1) ∧ y = M') ∧ M'.2.2.length ≤ 600000 ∧ sl M'.2.2 ≤ 7302250
theorem law_W (hG : LawGoes) {p : Program} {e : Env} {s : State} {m : MethodId} {below : List Frame} {meth : Method} {c : Code} (l : Launch) {b L : Nat} {xs : Nat → Int32} (hL : L ≤ 3072) (C0 : lw_At p s m meth c b L xs) : W p l e room_1 s m #[Value.ref b] below meth c s.heap [] 0 0 (lw_Z below #[Value.ref b] s) (entryFrame m ([Value.ref b] : List Value).toArray 4) := by
  obtain ⟨hx, hb, hr, hml, hown, hts, hX, hbl, hlk, hgv⟩ := C0
  obtain ⟨D, ks, hcx⟩ := cx_start hts hX hgv
  obtain ⟨n, d, M', hd, hw, hc1, hc2⟩ := hG L (fun j => (xs j.toNat).toInt) hL (fun j => ⟨Int32.le_toInt _, Int32.toInt_lt _⟩)
  have hb0 : mB 0 = code := rfl
  have hx0 : mX 0 = 4 := rfl
  have hf : Fr p s m #[Value.ref b] meth c D (b, ks, s.heap.size, s.heap) 0 := ⟨hx, by rw [hb, hb0], by rw [hml, hx0], hown, fun wd h => hts wd (gws_good h).1, hcx, fun h => absurd h (by decide)⟩
  have hRK : RK p l e room_1 s m #[Value.ref b] below meth c D (b, ks, s.heap.size, s.heap) 0 2 L (lw_Z below #[Value.ref b] s) (0, 1) M' := by
    intro H locs cells slots ls pc hM hl hc hs ho hT
    have hd : decode code pc = .ok (.ireturn, 1) := by
      rcases hT with ⟨h1, h2, h3⟩ | ⟨h1, -⟩ | ⟨h1, -⟩ | ⟨h1, -⟩
      · exact h2
      · exact absurd h1 (by decide)
      · exact absurd h1 (by decide)
      · exact absurd (congrArg Prod.fst h1) (by decide)
    refine W.widen (k := 600000) (n := 7302250) (by omega) (by omega) ?_
    intro T hT X
    exact lw_ret (H := H) hx hb hr hlk hd T hT (Stand.forget (locs := []) X hl)
  have hKW := sim l n d 0 0 _ _ _ _ _ hw (p := p) (e := e) (R := room_1) (below := below) hf ⟨by show d + 5 ≤ 2048; omega, by show d * 60 + 120 ≤ 84000; omega, by show _ ≤ 2 + 600000; omega, by show _ ≤ L + 7302250; omega⟩ hRK
  rw [lg_entry_eq]
  refine hKW.2 s.heap [] 0 0 _ ⟨?_, ?_, fun _ h => absurd h List.not_mem_nil, fun _ h => absurd h List.not_mem_nil, rfl, ?_⟩
  · exact entry_LR (As := [(2, 1)]) (w := (b, ks, s.heap.size, s.heap)) (n := 4) (by decide) (fun v hv => by rw [List.mem_singleton.mp hv]; trivial)
  · obtain ⟨scr, x1, x2, x3, x4, x5⟩ := hX
    refine ⟨⟨Nat.le_refl _, rfl, rfl, rfl⟩, ⟨fun _ _ => rfl, hbl, ?_⟩, fun k h1 h2 => absurd h2 (by show ¬ k < 2; omega)⟩
    refine ⟨by show 0 ≤ (L : Int); omega, by show (L : Int) ≤ 3072; omega, scr, x1, x3, by rw [x4]; rfl, fun j hj => ?_⟩
    have hj : j < L := hj
    refine ⟨?_, Int32.le_toInt _, Int32.toInt_lt _⟩
    rw [x5 j hj]
    show some (Value.int (xs j)) = some (Value.int (Int32.ofInt ((xs (Int.toNat (j : Int))).toInt)))
    rw [Int.toNat_natCast, Int32.ofInt_toInt]
  · show 0 + L = sl [(99, 0), (55, (L : Int))]
    simp [sl]
end
