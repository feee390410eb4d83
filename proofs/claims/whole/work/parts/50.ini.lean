/-! both objects made: by evaluation -/
def wh_ini : Option vm_M := (s_no vm_M0 10).bind fun M1 => (f73 0 M1).bind fun p3 => (s_no p3 11).bind fun M7 => f111 (vm_n p3) M7
theorem wh_ini_some : wh_ini.isSome = true := by decide +kernel
