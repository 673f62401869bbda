/-! the first setup, both sides -/
section INI
def iT : List Int32 := [99, 97, 116, 32, 116, 111, 109, 32, 53, 32, 108, 101, 102, 116, 59, 99, 97, 116, 32, 112, 117, 115, 115, 32, 51, 32, 114, 105, 103, 104, 116, 59, 99, 97, 116, 32, 109, 111, 115, 115, 32, 55, 32, 114, 105, 103, 104, 116, 59, 115, 97, 99, 107, 32, 114, 121, 101, 32, 54, 48, 32, 52, 32, 111, 112, 101, 110, 59, 115, 97, 99, 107, 32, 111, 97, 116, 115, 32, 51, 48, 32, 57, 32, 115, 104, 117, 116, 59, 115, 97, 99, 107, 32, 112, 101, 97, 115, 32, 56, 32, 50, 32, 111, 112, 101, 110, 59, 115, 104, 105, 102, 116, 32, 116, 111, 109, 32, 52, 59, 115, 104, 105, 102, 116, 32, 112, 117, 115, 115, 32, 51, 59, 115, 104, 105, 102, 116, 32, 109, 111, 115, 115, 32, 53, 59]
/-- the reference's constructor -/
def fX11_ini (M : MS) : Option MS := (fX11_begins M).bind fun M => (fX11_spells M 65 116 111 109 0).bind fun M => (fX11_addsCat M 3 5 1).bind fun M => (fX11_spells M 77 112 117 115 115).bind fun M => (fX11_addsCat M 4 3 0).bind fun M => (fX11_spells M 89 109 111 115 115).bind fun M => (fX11_addsCat M 4 7 0).bind fun M => (fX11_spells M 161 114 121 101 0).bind fun M => (fX11_addsSack M 3 60 4 1).bind fun M => (fX11_spells M 173 111 97 116 115).bind fun M => (fX11_addsSack M 4 30 9 0).bind fun M => (fX11_spells M 185 112 101 97 115).bind fun M => (fX11_addsSack M 4 8 2 1).bind fun M => (fX11_addsShift M 0 4).bind fun M => (fX11_addsShift M 1 3).bind fun M => (fX11_addsShift M 2 5).bind fun M => fX11_starts M
/-- a reference that is given the first setup as its text -/
def iM : MS := (fun j => if j = 9 then 145 else 0, fun j => if j = 8 then fun k => iT.getD k 0 else fun _ => 0)
def iZ : MS := (fun _ => 0, fun _ _ => 0)
theorem ini_a : ((fX11_startsText iM).bind fun M => fX11_readText M).map (fun q => q.1) = some 1 := by decide +kernel
set_option maxRecDepth 20000 in
theorem ini_b : ((fX11_startsText iM).bind fun M => fX11_readText M).map (fun q => (q.1, (List.range 257).map (startW 3 (q.2.2 0)))) = (fX11_ini iZ).map (fun M => ((1 : Int32), (List.range 257).map (M.2 0))) := by decide +kernel
theorem ini_c : (fX11_ini iZ).isSome = true := by decide +kernel
end INI
