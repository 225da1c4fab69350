/-! Math.abs of a double (the machine runs it by an entry of its own): of what is no NaN it draws nothing. -/
theorem wab_inm : Cond.initialized "java/lang/Math" ∈ tG := tG_in (by decide +kernel) (by decide +kernel)
theorem wab_lk : Cond.methodLink RL 232 yJ9_abs_294c1 ∈ tG := tG_in (by decide +kernel) (by decide +kernel)
theorem wab_st : Cond.static yJ9_abs_294c1 ∈ tG := tG_in (by decide +kernel) (by decide +kernel)
theorem wab_co : Cond.code yJ9_abs_294c1 cJ9_abs_294c1 2 (some .double) ∈ tG := tG_in (by decide +kernel) (by decide +kernel)
theorem ds_abs : parseMethodDescriptor yJ9_abs_294c1.desc = some { parameters := [.double], returnType := some .double } := by decide +kernel
section XABS
variable {p : Program} {l : Launch} {e : Env} {R : Room} {s : State} {m : MethodId} {args : Array Value} {below : List Frame} {meth : Method} {c : Code} {H : Heap} {locs : List Loc} {cells slots : Nat} {Q : State → Prop}
variable {cc : ByteArray} {pc nL : Nat} {ret : Option FieldType} {ls : Array Slot} {rest : List Value} {D : va_G} {ct : Nat → ClassId}
theorem xl_abs (C0 : XC D ct p s m args meth c cc nL ret RL) (hsize : ls.size = nL) {x : UInt64} (hn : vf_n64 x) (hframes : 1 ≤ R.frames) (hlocals : (rest.map fun v => v.category).sum + 13 ≤ R.locals) (hdg : decode cc pc = .ok (.invokestatic 232, 3))
    (kk : W p l e R s m args below meth c H locs cells slots Q (F0 m (pc + 3) ls (.double (dabs x) :: rest))) : W p l e R s m args below meth c H locs cells slots Q (F0 m pc ls (.double x :: rest)) := by
  obtain ⟨hx, hb, hr, hml, hown, hts, hK, hlocks, hN⟩ := C0
  intro T hT X
  have hco := hts _ wab_co
  obtain ⟨mk, hnamed⟩ := Cond.code_named hco
  obtain ⟨mA, cA, h1, -, -, -, -, -, -, hsig⟩ := Cond.code_spec hnamed hco
  obtain ⟨v, vm1, ⟨T1, L1, n1, k1⟩, hW1, X1, ⟨hB, hv⟩, go⟩ := X.staticBack hx (own := RL) (index := 232) (y := yJ9_abs_294c1) hown (hts _ wab_lk) (hts _ wab_st) (hts _ wab_inm) hnamed h1 hsig (by decide +kernel)
    (Jvm.Free.NT.Abs64.pays (W := (rest.map fun v => v.category).sum) (bytes := cJ9_abs_294c1) (maxL := 2) hco (hts _ wab_st) hframes hlocals) (g := F0 m pc ls (.double x :: rest)) rfl (by rw [hml]; exact hsize) (Steps.refl _) (argsL := [.double x]) (rest := rest)
    (fun sig hs => by rw [ds_abs] at hs; rw [← Option.some.inj hs]; rfl) rfl (by show 2 * 0 + _ ≤ _; omega) (by rw [hb]; exact hdg) (fun vmx hWx => ⟨x, rfl, hn⟩)
  simp only [Prod.mk.injEq] at hB
  obtain ⟨rfl, rfl, rfl, rfl⟩ := hB
  have hv := hv x ⟨rfl, hn⟩
  subst hv
  obtain ⟨t, a1, b1⟩ := kk (T.setVm vm1) hT X1
  exact ⟨t, go.trans a1, b1⟩
end XABS
