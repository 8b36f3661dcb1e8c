/-! each method's table rows, and its call -/
theorem ct_mk {k n : Nat} {args L : List Value} {w : mW} {g : mG} {Q : mW → mO → Prop} (h1 : m_l k = n) (h2 : (m_gc k, m_gs k, m_al k) = g) (h3 : l_in args ++ List.replicate (n - (l_in args).length) .null = L) (h4 : (l_in args).length ≤ n) (h : RT k 0 L [] w g Q) : CT k args w Q := by
  subst h1; subst h2; subst h3
  exact ⟨h4, h⟩
theorem ml_X0_init : m_l n_X0_init = 2 := by decide +kernel
theorem mr_X0_init : m_r n_X0_init = none := by decide +kernel
theorem mh_X0_init : m_hh n_X0_init = [] := by decide +kernel
theorem mg_X0_init : (m_gc n_X0_init, m_gs n_X0_init, m_al n_X0_init) = (145, 3024, true) := by decide +kernel
theorem ct_X0_init {b : Nat} {w : mW} {Q : mW → mO → Prop} (h : RT n_X0_init 0 [.ref b, .null] [] w (145, 3024, true) Q) : CT n_X0_init [.ref b] w Q := ct_mk ml_X0_init mg_X0_init rfl (Nat.le_of_ble_eq_true rfl) h
theorem ml_X0_forgetAll : m_l n_X0_forgetAll = 1 := by decide +kernel
theorem mr_X0_forgetAll : m_r n_X0_forgetAll = none := by decide +kernel
theorem mh_X0_forgetAll : m_hh n_X0_forgetAll = [] := by decide +kernel
theorem mg_X0_forgetAll : (m_gc n_X0_forgetAll, m_gs n_X0_forgetAll, m_al n_X0_forgetAll) = (0, 0, false) := by decide +kernel
theorem ct_X0_forgetAll {b : Nat} {w : mW} {Q : mW → mO → Prop} (h : RT n_X0_forgetAll 0 [.ref b] [] w (0, 0, false) Q) : CT n_X0_forgetAll [.ref b] w Q := ct_mk ml_X0_forgetAll mg_X0_forgetAll rfl (Nat.le_of_ble_eq_true rfl) h
theorem ml_X0_keep : m_l n_X0_keep = 2 := by decide +kernel
theorem mr_X0_keep : m_r n_X0_keep = none := by decide +kernel
theorem mh_X0_keep : m_hh n_X0_keep = [] := by decide +kernel
theorem mg_X0_keep : (m_gc n_X0_keep, m_gs n_X0_keep, m_al n_X0_keep) = (0, 0, false) := by decide +kernel
theorem ct_X0_keep {b : Nat} {r0 : Nat} {w : mW} {Q : mW → mO → Prop} (h : RT n_X0_keep 0 [.ref b, .ref r0] [] w (0, 0, false) Q) : CT n_X0_keep [.ref b, .ref r0] w Q := ct_mk ml_X0_keep mg_X0_keep rfl (Nat.le_of_ble_eq_true rfl) h
theorem ml_X0_takeBack : m_l n_X0_takeBack = 2 := by decide +kernel
theorem mr_X0_takeBack : m_r n_X0_takeBack = none := by decide +kernel
theorem mh_X0_takeBack : m_hh n_X0_takeBack = [] := by decide +kernel
theorem mg_X0_takeBack : (m_gc n_X0_takeBack, m_gs n_X0_takeBack, m_al n_X0_takeBack) = (0, 0, false) := by decide +kernel
theorem ct_X0_takeBack {b : Nat} {r0 : Nat} {w : mW} {Q : mW → mO → Prop} (h : RT n_X0_takeBack 0 [.ref b, .ref r0] [] w (0, 0, false) Q) : CT n_X0_takeBack [.ref b, .ref r0] w Q := ct_mk ml_X0_takeBack mg_X0_takeBack rfl (Nat.le_of_ble_eq_true rfl) h
theorem ml_X1_init : m_l n_X1_init = 1 := by decide +kernel
theorem mr_X1_init : m_r n_X1_init = none := by decide +kernel
theorem mh_X1_init : m_hh n_X1_init = [] := by decide +kernel
theorem mg_X1_init : (m_gc n_X1_init, m_gs n_X1_init, m_al n_X1_init) = (1, 900, true) := by decide +kernel
theorem ct_X1_init {b : Nat} {w : mW} {Q : mW → mO → Prop} (h : RT n_X1_init 0 [.ref b] [] w (1, 900, true) Q) : CT n_X1_init [.ref b] w Q := ct_mk ml_X1_init mg_X1_init rfl (Nat.le_of_ble_eq_true rfl) h
theorem ml_X1_addNumber : m_l n_X1_addNumber = 2 := by decide +kernel
theorem mr_X1_addNumber : m_r n_X1_addNumber = none := by decide +kernel
theorem mh_X1_addNumber : m_hh n_X1_addNumber = [] := by decide +kernel
theorem mg_X1_addNumber : (m_gc n_X1_addNumber, m_gs n_X1_addNumber, m_al n_X1_addNumber) = (0, 0, false) := by decide +kernel
theorem ct_X1_addNumber {b : Nat} {x0 : Int32} {w : mW} {Q : mW → mO → Prop} (h : RT n_X1_addNumber 0 [.ref b, .int x0] [] w (0, 0, false) Q) : CT n_X1_addNumber [.ref b, .int x0] w Q := ct_mk ml_X1_addNumber mg_X1_addNumber rfl (Nat.le_of_ble_eq_true rfl) h
theorem ml_X1_addByte : m_l n_X1_addByte = 2 := by decide +kernel
theorem mr_X1_addByte : m_r n_X1_addByte = none := by decide +kernel
theorem mh_X1_addByte : m_hh n_X1_addByte = [] := by decide +kernel
theorem mg_X1_addByte : (m_gc n_X1_addByte, m_gs n_X1_addByte, m_al n_X1_addByte) = (0, 0, false) := by decide +kernel
theorem ct_X1_addByte {b : Nat} {x0 : Int32} {w : mW} {Q : mW → mO → Prop} (h : RT n_X1_addByte 0 [.ref b, .int x0] [] w (0, 0, false) Q) : CT n_X1_addByte [.ref b, .int x0] w Q := ct_mk ml_X1_addByte mg_X1_addByte rfl (Nat.le_of_ble_eq_true rfl) h
theorem ml_X1_byteAt : m_l n_X1_byteAt = 2 := by decide +kernel
theorem mr_X1_byteAt : m_r n_X1_byteAt = some .int := by decide +kernel
theorem mh_X1_byteAt : m_hh n_X1_byteAt = [] := by decide +kernel
theorem mg_X1_byteAt : (m_gc n_X1_byteAt, m_gs n_X1_byteAt, m_al n_X1_byteAt) = (0, 0, false) := by decide +kernel
theorem ct_X1_byteAt {b : Nat} {x0 : Int32} {w : mW} {Q : mW → mO → Prop} (h : RT n_X1_byteAt 0 [.ref b, .int x0] [] w (0, 0, false) Q) : CT n_X1_byteAt [.ref b, .int x0] w Q := ct_mk ml_X1_byteAt mg_X1_byteAt rfl (Nat.le_of_ble_eq_true rfl) h
theorem ml_X2_init : m_l n_X2_init = 1 := by decide +kernel
theorem mr_X2_init : m_r n_X2_init = none := by decide +kernel
theorem mh_X2_init : m_hh n_X2_init = [] := by decide +kernel
theorem mg_X2_init : (m_gc n_X2_init, m_gs n_X2_init, m_al n_X2_init) = (11, 237, true) := by decide +kernel
theorem ct_X2_init {b : Nat} {w : mW} {Q : mW → mO → Prop} (h : RT n_X2_init 0 [.ref b] [] w (11, 237, true) Q) : CT n_X2_init [.ref b] w Q := ct_mk ml_X2_init mg_X2_init rfl (Nat.le_of_ble_eq_true rfl) h
theorem ml_X2_makeNew : m_l n_X2_makeNew = 1 := by decide +kernel
theorem mr_X2_makeNew : m_r n_X2_makeNew = none := by decide +kernel
theorem mh_X2_makeNew : m_hh n_X2_makeNew = [] := by decide +kernel
theorem mg_X2_makeNew : (m_gc n_X2_makeNew, m_gs n_X2_makeNew, m_al n_X2_makeNew) = (0, 0, false) := by decide +kernel
theorem ct_X2_makeNew {b : Nat} {w : mW} {Q : mW → mO → Prop} (h : RT n_X2_makeNew 0 [.ref b] [] w (0, 0, false) Q) : CT n_X2_makeNew [.ref b] w Q := ct_mk ml_X2_makeNew mg_X2_makeNew rfl (Nat.le_of_ble_eq_true rfl) h
theorem ml_X2_copyFrom : m_l n_X2_copyFrom = 2 := by decide +kernel
theorem mr_X2_copyFrom : m_r n_X2_copyFrom = none := by decide +kernel
theorem mh_X2_copyFrom : m_hh n_X2_copyFrom = [] := by decide +kernel
theorem mg_X2_copyFrom : (m_gc n_X2_copyFrom, m_gs n_X2_copyFrom, m_al n_X2_copyFrom) = (0, 0, false) := by decide +kernel
theorem ct_X2_copyFrom {b : Nat} {r0 : Nat} {w : mW} {Q : mW → mO → Prop} (h : RT n_X2_copyFrom 0 [.ref b, .ref r0] [] w (0, 0, false) Q) : CT n_X2_copyFrom [.ref b, .ref r0] w Q := ct_mk ml_X2_copyFrom mg_X2_copyFrom rfl (Nat.le_of_ble_eq_true rfl) h
theorem ml_X2_highestPosition : m_l n_X2_highestPosition = 1 := by decide +kernel
theorem mr_X2_highestPosition : m_r n_X2_highestPosition = some .int := by decide +kernel
theorem mh_X2_highestPosition : m_hh n_X2_highestPosition = [] := by decide +kernel
theorem mg_X2_highestPosition : (m_gc n_X2_highestPosition, m_gs n_X2_highestPosition, m_al n_X2_highestPosition) = (0, 0, false) := by decide +kernel
theorem ct_X2_highestPosition {b : Nat} {w : mW} {Q : mW → mO → Prop} (h : RT n_X2_highestPosition 0 [.ref b] [] w (0, 0, false) Q) : CT n_X2_highestPosition [.ref b] w Q := ct_mk ml_X2_highestPosition mg_X2_highestPosition rfl (Nat.le_of_ble_eq_true rfl) h
theorem ml_X2_modulus : m_l n_X2_modulus = 1 := by decide +kernel
theorem mr_X2_modulus : m_r n_X2_modulus = some .long := by decide +kernel
theorem mh_X2_modulus : m_hh n_X2_modulus = [] := by decide +kernel
theorem mg_X2_modulus : (m_gc n_X2_modulus, m_gs n_X2_modulus, m_al n_X2_modulus) = (0, 0, false) := by decide +kernel
theorem ct_X2_modulus {b : Nat} {w : mW} {Q : mW → mO → Prop} (h : RT n_X2_modulus 0 [.ref b] [] w (0, 0, false) Q) : CT n_X2_modulus [.ref b] w Q := ct_mk ml_X2_modulus mg_X2_modulus rfl (Nat.le_of_ble_eq_true rfl) h
theorem ml_X2_greatestPinNumber : m_l n_X2_greatestPinNumber = 1 := by decide +kernel
theorem mr_X2_greatestPinNumber : m_r n_X2_greatestPinNumber = some .int := by decide +kernel
theorem mh_X2_greatestPinNumber : m_hh n_X2_greatestPinNumber = [] := by decide +kernel
theorem mg_X2_greatestPinNumber : (m_gc n_X2_greatestPinNumber, m_gs n_X2_greatestPinNumber, m_al n_X2_greatestPinNumber) = (0, 0, false) := by decide +kernel
theorem ct_X2_greatestPinNumber {b : Nat} {w : mW} {Q : mW → mO → Prop} (h : RT n_X2_greatestPinNumber 0 [.ref b] [] w (0, 0, false) Q) : CT n_X2_greatestPinNumber [.ref b] w Q := ct_mk ml_X2_greatestPinNumber mg_X2_greatestPinNumber rfl (Nat.le_of_ble_eq_true rfl) h
theorem ml_X2_resultNumber : m_l n_X2_resultNumber = 1 := by decide +kernel
theorem mr_X2_resultNumber : m_r n_X2_resultNumber = some .long := by decide +kernel
theorem mh_X2_resultNumber : m_hh n_X2_resultNumber = [] := by decide +kernel
theorem mg_X2_resultNumber : (m_gc n_X2_resultNumber, m_gs n_X2_resultNumber, m_al n_X2_resultNumber) = (0, 0, false) := by decide +kernel
theorem ct_X2_resultNumber {b : Nat} {w : mW} {Q : mW → mO → Prop} (h : RT n_X2_resultNumber 0 [.ref b] [] w (0, 0, false) Q) : CT n_X2_resultNumber [.ref b] w Q := ct_mk ml_X2_resultNumber mg_X2_resultNumber rfl (Nat.le_of_ble_eq_true rfl) h
theorem ml_X2_counterNumber : m_l n_X2_counterNumber = 1 := by decide +kernel
theorem mr_X2_counterNumber : m_r n_X2_counterNumber = some .int := by decide +kernel
theorem mh_X2_counterNumber : m_hh n_X2_counterNumber = [] := by decide +kernel
theorem mg_X2_counterNumber : (m_gc n_X2_counterNumber, m_gs n_X2_counterNumber, m_al n_X2_counterNumber) = (0, 0, false) := by decide +kernel
theorem ct_X2_counterNumber {b : Nat} {w : mW} {Q : mW → mO → Prop} (h : RT n_X2_counterNumber 0 [.ref b] [] w (0, 0, false) Q) : CT n_X2_counterNumber [.ref b] w Q := ct_mk ml_X2_counterNumber mg_X2_counterNumber rfl (Nat.le_of_ble_eq_true rfl) h
theorem ml_X2_pinNumber : m_l n_X2_pinNumber = 1 := by decide +kernel
theorem mr_X2_pinNumber : m_r n_X2_pinNumber = some .int := by decide +kernel
theorem mh_X2_pinNumber : m_hh n_X2_pinNumber = [] := by decide +kernel
theorem mg_X2_pinNumber : (m_gc n_X2_pinNumber, m_gs n_X2_pinNumber, m_al n_X2_pinNumber) = (0, 0, false) := by decide +kernel
theorem ct_X2_pinNumber {b : Nat} {w : mW} {Q : mW → mO → Prop} (h : RT n_X2_pinNumber 0 [.ref b] [] w (0, 0, false) Q) : CT n_X2_pinNumber [.ref b] w Q := ct_mk ml_X2_pinNumber mg_X2_pinNumber rfl (Nat.le_of_ble_eq_true rfl) h
theorem ml_X2_putPins : m_l n_X2_putPins = 4 := by decide +kernel
theorem mr_X2_putPins : m_r n_X2_putPins = none := by decide +kernel
theorem mh_X2_putPins : m_hh n_X2_putPins = [] := by decide +kernel
theorem mg_X2_putPins : (m_gc n_X2_putPins, m_gs n_X2_putPins, m_al n_X2_putPins) = (0, 0, false) := by decide +kernel
theorem ct_X2_putPins {b : Nat} {x0 : Int32} {w : mW} {Q : mW → mO → Prop} (h : RT n_X2_putPins 0 [.ref b, .int x0, .null, .null] [] w (0, 0, false) Q) : CT n_X2_putPins [.ref b, .int x0] w Q := ct_mk ml_X2_putPins mg_X2_putPins rfl (Nat.le_of_ble_eq_true rfl) h
theorem ml_X2_hasFault : m_l n_X2_hasFault = 3 := by decide +kernel
theorem mr_X2_hasFault : m_r n_X2_hasFault = some .boolean := by decide +kernel
theorem mh_X2_hasFault : m_hh n_X2_hasFault = [] := by decide +kernel
theorem mg_X2_hasFault : (m_gc n_X2_hasFault, m_gs n_X2_hasFault, m_al n_X2_hasFault) = (0, 0, false) := by decide +kernel
theorem ct_X2_hasFault {b : Nat} {x0 : Int32} {x1 : Int32} {w : mW} {Q : mW → mO → Prop} (h : RT n_X2_hasFault 0 [.ref b, .int x0, .int x1] [] w (0, 0, false) Q) : CT n_X2_hasFault [.ref b, .int x0, .int x1] w Q := ct_mk ml_X2_hasFault mg_X2_hasFault rfl (Nat.le_of_ble_eq_true rfl) h
theorem ml_X2_faultTotal : m_l n_X2_faultTotal = 3 := by decide +kernel
theorem mr_X2_faultTotal : m_r n_X2_faultTotal = some .int := by decide +kernel
theorem mh_X2_faultTotal : m_hh n_X2_faultTotal = [] := by decide +kernel
theorem mg_X2_faultTotal : (m_gc n_X2_faultTotal, m_gs n_X2_faultTotal, m_al n_X2_faultTotal) = (0, 0, false) := by decide +kernel
theorem ct_X2_faultTotal {b : Nat} {w : mW} {Q : mW → mO → Prop} (h : RT n_X2_faultTotal 0 [.ref b, .null, .null] [] w (0, 0, false) Q) : CT n_X2_faultTotal [.ref b] w Q := ct_mk ml_X2_faultTotal mg_X2_faultTotal rfl (Nat.le_of_ble_eq_true rfl) h
theorem ml_X2_busiestWheel : m_l n_X2_busiestWheel = 3 := by decide +kernel
theorem mr_X2_busiestWheel : m_r n_X2_busiestWheel = some .int := by decide +kernel
theorem mh_X2_busiestWheel : m_hh n_X2_busiestWheel = [] := by decide +kernel
theorem mg_X2_busiestWheel : (m_gc n_X2_busiestWheel, m_gs n_X2_busiestWheel, m_al n_X2_busiestWheel) = (0, 0, false) := by decide +kernel
theorem ct_X2_busiestWheel {b : Nat} {w : mW} {Q : mW → mO → Prop} (h : RT n_X2_busiestWheel 0 [.ref b, .null, .null] [] w (0, 0, false) Q) : CT n_X2_busiestWheel [.ref b] w Q := ct_mk ml_X2_busiestWheel mg_X2_busiestWheel rfl (Nat.le_of_ble_eq_true rfl) h
theorem ml_X2_isWrongAt : m_l n_X2_isWrongAt = 2 := by decide +kernel
theorem mr_X2_isWrongAt : m_r n_X2_isWrongAt = some .boolean := by decide +kernel
theorem mh_X2_isWrongAt : m_hh n_X2_isWrongAt = [] := by decide +kernel
theorem mg_X2_isWrongAt : (m_gc n_X2_isWrongAt, m_gs n_X2_isWrongAt, m_al n_X2_isWrongAt) = (0, 0, false) := by decide +kernel
theorem ct_X2_isWrongAt {b : Nat} {x0 : Int32} {w : mW} {Q : mW → mO → Prop} (h : RT n_X2_isWrongAt 0 [.ref b, .int x0] [] w (0, 0, false) Q) : CT n_X2_isWrongAt [.ref b, .int x0] w Q := ct_mk ml_X2_isWrongAt mg_X2_isWrongAt rfl (Nat.le_of_ble_eq_true rfl) h
theorem ml_X2_shiftAtMost : m_l n_X2_shiftAtMost = 2 := by decide +kernel
theorem mr_X2_shiftAtMost : m_r n_X2_shiftAtMost = none := by decide +kernel
theorem mh_X2_shiftAtMost : m_hh n_X2_shiftAtMost = [] := by decide +kernel
theorem mg_X2_shiftAtMost : (m_gc n_X2_shiftAtMost, m_gs n_X2_shiftAtMost, m_al n_X2_shiftAtMost) = (0, 0, false) := by decide +kernel
theorem ct_X2_shiftAtMost {b : Nat} {x0 : Int32} {w : mW} {Q : mW → mO → Prop} (h : RT n_X2_shiftAtMost 0 [.ref b, .int x0] [] w (0, 0, false) Q) : CT n_X2_shiftAtMost [.ref b, .int x0] w Q := ct_mk ml_X2_shiftAtMost mg_X2_shiftAtMost rfl (Nat.le_of_ble_eq_true rfl) h
theorem ml_X2_clearPart : m_l n_X2_clearPart = 3 := by decide +kernel
theorem mr_X2_clearPart : m_r n_X2_clearPart = some .int := by decide +kernel
theorem mh_X2_clearPart : m_hh n_X2_clearPart = [] := by decide +kernel
theorem mg_X2_clearPart : (m_gc n_X2_clearPart, m_gs n_X2_clearPart, m_al n_X2_clearPart) = (0, 0, false) := by decide +kernel
theorem ct_X2_clearPart {b : Nat} {x0 : Int32} {w : mW} {Q : mW → mO → Prop} (h : RT n_X2_clearPart 0 [.ref b, .int x0, .null] [] w (0, 0, false) Q) : CT n_X2_clearPart [.ref b, .int x0] w Q := ct_mk ml_X2_clearPart mg_X2_clearPart rfl (Nat.le_of_ble_eq_true rfl) h
theorem ml_X2_transferBack : m_l n_X2_transferBack = 2 := by decide +kernel
theorem mr_X2_transferBack : m_r n_X2_transferBack = some .int := by decide +kernel
theorem mh_X2_transferBack : m_hh n_X2_transferBack = [] := by decide +kernel
theorem mg_X2_transferBack : (m_gc n_X2_transferBack, m_gs n_X2_transferBack, m_al n_X2_transferBack) = (0, 0, false) := by decide +kernel
theorem ct_X2_transferBack {b : Nat} {w : mW} {Q : mW → mO → Prop} (h : RT n_X2_transferBack 0 [.ref b, .null] [] w (0, 0, false) Q) : CT n_X2_transferBack [.ref b] w Q := ct_mk ml_X2_transferBack mg_X2_transferBack rfl (Nat.le_of_ble_eq_true rfl) h
theorem ml_X2_crankTimes : m_l n_X2_crankTimes = 5 := by decide +kernel
theorem mr_X2_crankTimes : m_r n_X2_crankTimes = some .int := by decide +kernel
theorem mh_X2_crankTimes : m_hh n_X2_crankTimes = [] := by decide +kernel
theorem mg_X2_crankTimes : (m_gc n_X2_crankTimes, m_gs n_X2_crankTimes, m_al n_X2_crankTimes) = (0, 0, false) := by decide +kernel
theorem ct_X2_crankTimes {b : Nat} {x0 : Int32} {w : mW} {Q : mW → mO → Prop} (h : RT n_X2_crankTimes 0 [.ref b, .int x0, .null, .null, .null] [] w (0, 0, false) Q) : CT n_X2_crankTimes [.ref b, .int x0] w Q := ct_mk ml_X2_crankTimes mg_X2_crankTimes rfl (Nat.le_of_ble_eq_true rfl) h
theorem ml_X2_divideByPins : m_l n_X2_divideByPins = 3 := by decide +kernel
theorem mr_X2_divideByPins : m_r n_X2_divideByPins = some .int := by decide +kernel
theorem mh_X2_divideByPins : m_hh n_X2_divideByPins = [] := by decide +kernel
theorem mg_X2_divideByPins : (m_gc n_X2_divideByPins, m_gs n_X2_divideByPins, m_al n_X2_divideByPins) = (0, 0, false) := by decide +kernel
theorem ct_X2_divideByPins {b : Nat} {w : mW} {Q : mW → mO → Prop} (h : RT n_X2_divideByPins 0 [.ref b, .null, .null] [] w (0, 0, false) Q) : CT n_X2_divideByPins [.ref b] w Q := ct_mk ml_X2_divideByPins mg_X2_divideByPins rfl (Nat.le_of_ble_eq_true rfl) h
theorem ml_X2_divideHere : m_l n_X2_divideHere = 3 := by decide +kernel
theorem mr_X2_divideHere : m_r n_X2_divideHere = some .int := by decide +kernel
theorem mh_X2_divideHere : m_hh n_X2_divideHere = [] := by decide +kernel
theorem mg_X2_divideHere : (m_gc n_X2_divideHere, m_gs n_X2_divideHere, m_al n_X2_divideHere) = (0, 0, false) := by decide +kernel
theorem ct_X2_divideHere {b : Nat} {w : mW} {Q : mW → mO → Prop} (h : RT n_X2_divideHere 0 [.ref b, .null, .null] [] w (0, 0, false) Q) : CT n_X2_divideHere [.ref b] w Q := ct_mk ml_X2_divideHere mg_X2_divideHere rfl (Nat.le_of_ble_eq_true rfl) h
theorem ml_X2_takeBackTurn : m_l n_X2_takeBackTurn = 4 := by decide +kernel
theorem mr_X2_takeBackTurn : m_r n_X2_takeBackTurn = some .int := by decide +kernel
theorem mh_X2_takeBackTurn : m_hh n_X2_takeBackTurn = [] := by decide +kernel
theorem mg_X2_takeBackTurn : (m_gc n_X2_takeBackTurn, m_gs n_X2_takeBackTurn, m_al n_X2_takeBackTurn) = (0, 0, false) := by decide +kernel
theorem ct_X2_takeBackTurn {b : Nat} {w : mW} {Q : mW → mO → Prop} (h : RT n_X2_takeBackTurn 0 [.ref b, .null, .null, .null] [] w (0, 0, false) Q) : CT n_X2_takeBackTurn [.ref b] w Q := ct_mk ml_X2_takeBackTurn mg_X2_takeBackTurn rfl (Nat.le_of_ble_eq_true rfl) h
theorem ml_X2_freeAndGoOn : m_l n_X2_freeAndGoOn = 1 := by decide +kernel
theorem mr_X2_freeAndGoOn : m_r n_X2_freeAndGoOn = some .boolean := by decide +kernel
theorem mh_X2_freeAndGoOn : m_hh n_X2_freeAndGoOn = [] := by decide +kernel
theorem mg_X2_freeAndGoOn : (m_gc n_X2_freeAndGoOn, m_gs n_X2_freeAndGoOn, m_al n_X2_freeAndGoOn) = (0, 0, false) := by decide +kernel
theorem ct_X2_freeAndGoOn {b : Nat} {w : mW} {Q : mW → mO → Prop} (h : RT n_X2_freeAndGoOn 0 [.ref b] [] w (0, 0, false) Q) : CT n_X2_freeAndGoOn [.ref b] w Q := ct_mk ml_X2_freeAndGoOn mg_X2_freeAndGoOn rfl (Nat.le_of_ble_eq_true rfl) h
theorem ml_X2_jammedWheel : m_l n_X2_jammedWheel = 1 := by decide +kernel
theorem mr_X2_jammedWheel : m_r n_X2_jammedWheel = some .int := by decide +kernel
theorem mh_X2_jammedWheel : m_hh n_X2_jammedWheel = [] := by decide +kernel
theorem mg_X2_jammedWheel : (m_gc n_X2_jammedWheel, m_gs n_X2_jammedWheel, m_al n_X2_jammedWheel) = (0, 0, false) := by decide +kernel
theorem ct_X2_jammedWheel {b : Nat} {w : mW} {Q : mW → mO → Prop} (h : RT n_X2_jammedWheel 0 [.ref b] [] w (0, 0, false) Q) : CT n_X2_jammedWheel [.ref b] w Q := ct_mk ml_X2_jammedWheel mg_X2_jammedWheel rfl (Nat.le_of_ble_eq_true rfl) h
theorem ml_X2_goOn : m_l n_X2_goOn = 1 := by decide +kernel
theorem mr_X2_goOn : m_r n_X2_goOn = some .boolean := by decide +kernel
theorem mh_X2_goOn : m_hh n_X2_goOn = [] := by decide +kernel
theorem mg_X2_goOn : (m_gc n_X2_goOn, m_gs n_X2_goOn, m_al n_X2_goOn) = (0, 0, false) := by decide +kernel
theorem ct_X2_goOn {b : Nat} {w : mW} {Q : mW → mO → Prop} (h : RT n_X2_goOn 0 [.ref b] [] w (0, 0, false) Q) : CT n_X2_goOn [.ref b] w Q := ct_mk ml_X2_goOn mg_X2_goOn rfl (Nat.le_of_ble_eq_true rfl) h
theorem ml_X2_movePins : m_l n_X2_movePins = 2 := by decide +kernel
theorem mr_X2_movePins : m_r n_X2_movePins = some .boolean := by decide +kernel
theorem mh_X2_movePins : m_hh n_X2_movePins = [] := by decide +kernel
theorem mg_X2_movePins : (m_gc n_X2_movePins, m_gs n_X2_movePins, m_al n_X2_movePins) = (0, 0, false) := by decide +kernel
theorem ct_X2_movePins {b : Nat} {w : mW} {Q : mW → mO → Prop} (h : RT n_X2_movePins 0 [.ref b, .null] [] w (0, 0, false) Q) : CT n_X2_movePins [.ref b] w Q := ct_mk ml_X2_movePins mg_X2_movePins rfl (Nat.le_of_ble_eq_true rfl) h
theorem ml_X2_releaseLevers : m_l n_X2_releaseLevers = 3 := by decide +kernel
theorem mr_X2_releaseLevers : m_r n_X2_releaseLevers = some .boolean := by decide +kernel
theorem mh_X2_releaseLevers : m_hh n_X2_releaseLevers = [] := by decide +kernel
theorem mg_X2_releaseLevers : (m_gc n_X2_releaseLevers, m_gs n_X2_releaseLevers, m_al n_X2_releaseLevers) = (0, 0, false) := by decide +kernel
theorem ct_X2_releaseLevers {b : Nat} {w : mW} {Q : mW → mO → Prop} (h : RT n_X2_releaseLevers 0 [.ref b, .null, .null] [] w (0, 0, false) Q) : CT n_X2_releaseLevers [.ref b] w Q := ct_mk ml_X2_releaseLevers mg_X2_releaseLevers rfl (Nat.le_of_ble_eq_true rfl) h
theorem ml_X2_move : m_l n_X2_move = 4 := by decide +kernel
theorem mr_X2_move : m_r n_X2_move = some .boolean := by decide +kernel
theorem mh_X2_move : m_hh n_X2_move = [] := by decide +kernel
theorem mg_X2_move : (m_gc n_X2_move, m_gs n_X2_move, m_al n_X2_move) = (0, 0, false) := by decide +kernel
theorem ct_X2_move {b : Nat} {x0 : Int32} {x1 : Int32} {w : mW} {Q : mW → mO → Prop} (h : RT n_X2_move 0 [.ref b, .int x0, .int x1, .null] [] w (0, 0, false) Q) : CT n_X2_move [.ref b, .int x0, .int x1] w Q := ct_mk ml_X2_move mg_X2_move rfl (Nat.le_of_ble_eq_true rfl) h
theorem ml_X2_finishTurn : m_l n_X2_finishTurn = 2 := by decide +kernel
theorem mr_X2_finishTurn : m_r n_X2_finishTurn = none := by decide +kernel
theorem mh_X2_finishTurn : m_hh n_X2_finishTurn = [] := by decide +kernel
theorem mg_X2_finishTurn : (m_gc n_X2_finishTurn, m_gs n_X2_finishTurn, m_al n_X2_finishTurn) = (0, 0, false) := by decide +kernel
theorem ct_X2_finishTurn {b : Nat} {w : mW} {Q : mW → mO → Prop} (h : RT n_X2_finishTurn 0 [.ref b, .null] [] w (0, 0, false) Q) : CT n_X2_finishTurn [.ref b] w Q := ct_mk ml_X2_finishTurn mg_X2_finishTurn rfl (Nat.le_of_ble_eq_true rfl) h
theorem ml_X2_moveCounter : m_l n_X2_moveCounter = 5 := by decide +kernel
theorem mr_X2_moveCounter : m_r n_X2_moveCounter = none := by decide +kernel
theorem mh_X2_moveCounter : m_hh n_X2_moveCounter = [] := by decide +kernel
theorem mg_X2_moveCounter : (m_gc n_X2_moveCounter, m_gs n_X2_moveCounter, m_al n_X2_moveCounter) = (0, 0, false) := by decide +kernel
theorem ct_X2_moveCounter {b : Nat} {x0 : Int32} {w : mW} {Q : mW → mO → Prop} (h : RT n_X2_moveCounter 0 [.ref b, .int x0, .null, .null, .null] [] w (0, 0, false) Q) : CT n_X2_moveCounter [.ref b, .int x0] w Q := ct_mk ml_X2_moveCounter mg_X2_moveCounter rfl (Nat.le_of_ble_eq_true rfl) h
theorem ml_X2_clearDigits : m_l n_X2_clearDigits = 3 := by decide +kernel
theorem mr_X2_clearDigits : m_r n_X2_clearDigits = some .int := by decide +kernel
theorem mh_X2_clearDigits : m_hh n_X2_clearDigits = [] := by decide +kernel
theorem mg_X2_clearDigits : (m_gc n_X2_clearDigits, m_gs n_X2_clearDigits, m_al n_X2_clearDigits) = (0, 0, false) := by decide +kernel
theorem ct_X2_clearDigits {r0 : Nat} {w : mW} {Q : mW → mO → Prop} (h : RT n_X2_clearDigits 0 [.ref r0, .null, .null] [] w (0, 0, false) Q) : CT n_X2_clearDigits [.ref r0] w Q := ct_mk ml_X2_clearDigits mg_X2_clearDigits rfl (Nat.le_of_ble_eq_true rfl) h
theorem ml_X2_numberOf : m_l n_X2_numberOf = 5 := by decide +kernel
theorem mr_X2_numberOf : m_r n_X2_numberOf = some .long := by decide +kernel
theorem mh_X2_numberOf : m_hh n_X2_numberOf = [] := by decide +kernel
theorem mg_X2_numberOf : (m_gc n_X2_numberOf, m_gs n_X2_numberOf, m_al n_X2_numberOf) = (0, 0, false) := by decide +kernel
theorem ct_X2_numberOf {r0 : Nat} {x1 : Int32} {w : mW} {Q : mW → mO → Prop} (h : RT n_X2_numberOf 0 [.ref r0, .int x1, .null, .null, .null] [] w (0, 0, false) Q) : CT n_X2_numberOf [.ref r0, .int x1] w Q := ct_mk ml_X2_numberOf mg_X2_numberOf rfl (Nat.le_of_ble_eq_true rfl) h
theorem ml_X3_init : m_l n_X3_init = 1 := by decide +kernel
theorem mr_X3_init : m_r n_X3_init = none := by decide +kernel
theorem mh_X3_init : m_hh n_X3_init = [] := by decide +kernel
theorem mg_X3_init : (m_gc n_X3_init, m_gs n_X3_init, m_al n_X3_init) = (1, 7, true) := by decide +kernel
theorem ct_X3_init {b : Nat} {w : mW} {Q : mW → mO → Prop} (h : RT n_X3_init 0 [.ref b] [] w (1, 7, true) Q) : CT n_X3_init [.ref b] w Q := ct_mk ml_X3_init mg_X3_init rfl (Nat.le_of_ble_eq_true rfl) h
theorem ml_X3_plan : m_l n_X3_plan = 6 := by decide +kernel
theorem mr_X3_plan : m_r n_X3_plan = none := by decide +kernel
theorem mh_X3_plan : m_hh n_X3_plan = [] := by decide +kernel
theorem mg_X3_plan : (m_gc n_X3_plan, m_gs n_X3_plan, m_al n_X3_plan) = (0, 0, false) := by decide +kernel
theorem ct_X3_plan {b : Nat} {x0 : Int32} {x1 : Int32} {w : mW} {Q : mW → mO → Prop} (h : RT n_X3_plan 0 [.ref b, .int x0, .int x1, .null, .null, .null] [] w (0, 0, false) Q) : CT n_X3_plan [.ref b, .int x0, .int x1] w Q := ct_mk ml_X3_plan mg_X3_plan rfl (Nat.le_of_ble_eq_true rfl) h
theorem ml_X3_fits : m_l n_X3_fits = 2 := by decide +kernel
theorem mr_X3_fits : m_r n_X3_fits = some .boolean := by decide +kernel
theorem mh_X3_fits : m_hh n_X3_fits = [] := by decide +kernel
theorem mg_X3_fits : (m_gc n_X3_fits, m_gs n_X3_fits, m_al n_X3_fits) = (0, 0, false) := by decide +kernel
theorem ct_X3_fits {b : Nat} {r0 : Nat} {w : mW} {Q : mW → mO → Prop} (h : RT n_X3_fits 0 [.ref b, .ref r0] [] w (0, 0, false) Q) : CT n_X3_fits [.ref b, .ref r0] w Q := ct_mk ml_X3_fits mg_X3_fits rfl (Nat.le_of_ble_eq_true rfl) h
theorem ml_X3_turnTotal : m_l n_X3_turnTotal = 3 := by decide +kernel
theorem mr_X3_turnTotal : m_r n_X3_turnTotal = some .int := by decide +kernel
theorem mh_X3_turnTotal : m_hh n_X3_turnTotal = [] := by decide +kernel
theorem mg_X3_turnTotal : (m_gc n_X3_turnTotal, m_gs n_X3_turnTotal, m_al n_X3_turnTotal) = (0, 0, false) := by decide +kernel
theorem ct_X3_turnTotal {b : Nat} {w : mW} {Q : mW → mO → Prop} (h : RT n_X3_turnTotal 0 [.ref b, .null, .null] [] w (0, 0, false) Q) : CT n_X3_turnTotal [.ref b] w Q := ct_mk ml_X3_turnTotal mg_X3_turnTotal rfl (Nat.le_of_ble_eq_true rfl) h
theorem ml_X3_runOn : m_l n_X3_runOn = 4 := by decide +kernel
theorem mr_X3_runOn : m_r n_X3_runOn = some .int := by decide +kernel
theorem mh_X3_runOn : m_hh n_X3_runOn = [] := by decide +kernel
theorem mg_X3_runOn : (m_gc n_X3_runOn, m_gs n_X3_runOn, m_al n_X3_runOn) = (0, 0, false) := by decide +kernel
theorem ct_X3_runOn {b : Nat} {r0 : Nat} {w : mW} {Q : mW → mO → Prop} (h : RT n_X3_runOn 0 [.ref b, .ref r0, .null, .null] [] w (0, 0, false) Q) : CT n_X3_runOn [.ref b, .ref r0] w Q := ct_mk ml_X3_runOn mg_X3_runOn rfl (Nat.le_of_ble_eq_true rfl) h
theorem ml_X4_init : m_l n_X4_init = 1 := by decide +kernel
theorem mr_X4_init : m_r n_X4_init = none := by decide +kernel
theorem mh_X4_init : m_hh n_X4_init = [] := by decide +kernel
theorem mg_X4_init : (m_gc n_X4_init, m_gs n_X4_init, m_al n_X4_init) = (2, 32, true) := by decide +kernel
theorem ct_X4_init {b : Nat} {w : mW} {Q : mW → mO → Prop} (h : RT n_X4_init 0 [.ref b] [] w (2, 32, true) Q) : CT n_X4_init [.ref b] w Q := ct_mk ml_X4_init mg_X4_init rfl (Nat.le_of_ble_eq_true rfl) h
theorem ml_X4_begin : m_l n_X4_begin = 4 := by decide +kernel
theorem mr_X4_begin : m_r n_X4_begin = none := by decide +kernel
theorem mh_X4_begin : m_hh n_X4_begin = [] := by decide +kernel
theorem mg_X4_begin : (m_gc n_X4_begin, m_gs n_X4_begin, m_al n_X4_begin) = (0, 0, false) := by decide +kernel
theorem ct_X4_begin {b : Nat} {x0 : Int32} {x1 : Int32} {w : mW} {Q : mW → mO → Prop} (h : RT n_X4_begin 0 [.ref b, .int x0, .int x1, .null] [] w (0, 0, false) Q) : CT n_X4_begin [.ref b, .int x0, .int x1] w Q := ct_mk ml_X4_begin mg_X4_begin rfl (Nat.le_of_ble_eq_true rfl) h
theorem ml_X4_copyFrom : m_l n_X4_copyFrom = 3 := by decide +kernel
theorem mr_X4_copyFrom : m_r n_X4_copyFrom = none := by decide +kernel
theorem mh_X4_copyFrom : m_hh n_X4_copyFrom = [] := by decide +kernel
theorem mg_X4_copyFrom : (m_gc n_X4_copyFrom, m_gs n_X4_copyFrom, m_al n_X4_copyFrom) = (0, 0, false) := by decide +kernel
theorem ct_X4_copyFrom {b : Nat} {r0 : Nat} {w : mW} {Q : mW → mO → Prop} (h : RT n_X4_copyFrom 0 [.ref b, .ref r0, .null] [] w (0, 0, false) Q) : CT n_X4_copyFrom [.ref b, .ref r0] w Q := ct_mk ml_X4_copyFrom mg_X4_copyFrom rfl (Nat.le_of_ble_eq_true rfl) h
theorem ml_X4_addCarry : m_l n_X4_addCarry = 1 := by decide +kernel
theorem mr_X4_addCarry : m_r n_X4_addCarry = none := by decide +kernel
theorem mh_X4_addCarry : m_hh n_X4_addCarry = [] := by decide +kernel
theorem mg_X4_addCarry : (m_gc n_X4_addCarry, m_gs n_X4_addCarry, m_al n_X4_addCarry) = (0, 0, false) := by decide +kernel
theorem ct_X4_addCarry {b : Nat} {w : mW} {Q : mW → mO → Prop} (h : RT n_X4_addCarry 0 [.ref b] [] w (0, 0, false) Q) : CT n_X4_addCarry [.ref b] w Q := ct_mk ml_X4_addCarry mg_X4_addCarry rfl (Nat.le_of_ble_eq_true rfl) h
theorem ml_X4_movedWheels : m_l n_X4_movedWheels = 3 := by decide +kernel
theorem mr_X4_movedWheels : m_r n_X4_movedWheels = some .int := by decide +kernel
theorem mh_X4_movedWheels : m_hh n_X4_movedWheels = [] := by decide +kernel
theorem mg_X4_movedWheels : (m_gc n_X4_movedWheels, m_gs n_X4_movedWheels, m_al n_X4_movedWheels) = (0, 0, false) := by decide +kernel
theorem ct_X4_movedWheels {b : Nat} {w : mW} {Q : mW → mO → Prop} (h : RT n_X4_movedWheels 0 [.ref b, .null, .null] [] w (0, 0, false) Q) : CT n_X4_movedWheels [.ref b] w Q := ct_mk ml_X4_movedWheels mg_X4_movedWheels rfl (Nat.le_of_ble_eq_true rfl) h
theorem ml_X5_init : m_l n_X5_init = 2 := by decide +kernel
theorem mr_X5_init : m_r n_X5_init = none := by decide +kernel
theorem mh_X5_init : m_hh n_X5_init = [] := by decide +kernel
theorem mg_X5_init : (m_gc n_X5_init, m_gs n_X5_init, m_al n_X5_init) = (3, 120, true) := by decide +kernel
theorem ct_X5_init {b : Nat} {r0 : Nat} {w : mW} {Q : mW → mO → Prop} (h : RT n_X5_init 0 [.ref b, .ref r0] [] w (3, 120, true) Q) : CT n_X5_init [.ref b, .ref r0] w Q := ct_mk ml_X5_init mg_X5_init rfl (Nat.le_of_ble_eq_true rfl) h
theorem ml_X5_readFor : m_l n_X5_readFor = 3 := by decide +kernel
theorem mr_X5_readFor : m_r n_X5_readFor = some .boolean := by decide +kernel
theorem mh_X5_readFor : m_hh n_X5_readFor = [] := by decide +kernel
theorem mg_X5_readFor : (m_gc n_X5_readFor, m_gs n_X5_readFor, m_al n_X5_readFor) = (0, 0, false) := by decide +kernel
theorem ct_X5_readFor {b : Nat} {r0 : Nat} {w : mW} {Q : mW → mO → Prop} (h : RT n_X5_readFor 0 [.ref b, .ref r0, .null] [] w (0, 0, false) Q) : CT n_X5_readFor [.ref b, .ref r0] w Q := ct_mk ml_X5_readFor mg_X5_readFor rfl (Nat.le_of_ble_eq_true rfl) h
theorem ml_X5_readCommand : m_l n_X5_readCommand = 3 := by decide +kernel
theorem mr_X5_readCommand : m_r n_X5_readCommand = some .boolean := by decide +kernel
theorem mh_X5_readCommand : m_hh n_X5_readCommand = [] := by decide +kernel
theorem mg_X5_readCommand : (m_gc n_X5_readCommand, m_gs n_X5_readCommand, m_al n_X5_readCommand) = (0, 0, false) := by decide +kernel
theorem ct_X5_readCommand {b : Nat} {r0 : Nat} {w : mW} {Q : mW → mO → Prop} (h : RT n_X5_readCommand 0 [.ref b, .ref r0, .null] [] w (0, 0, false) Q) : CT n_X5_readCommand [.ref b, .ref r0] w Q := ct_mk ml_X5_readCommand mg_X5_readCommand rfl (Nat.le_of_ble_eq_true rfl) h
theorem ml_X5_kindOfToken : m_l n_X5_kindOfToken = 1 := by decide +kernel
theorem mr_X5_kindOfToken : m_r n_X5_kindOfToken = some .int := by decide +kernel
theorem mh_X5_kindOfToken : m_hh n_X5_kindOfToken = [] := by decide +kernel
theorem mg_X5_kindOfToken : (m_gc n_X5_kindOfToken, m_gs n_X5_kindOfToken, m_al n_X5_kindOfToken) = (0, 0, false) := by decide +kernel
theorem ct_X5_kindOfToken {b : Nat} {w : mW} {Q : mW → mO → Prop} (h : RT n_X5_kindOfToken 0 [.ref b] [] w (0, 0, false) Q) : CT n_X5_kindOfToken [.ref b] w Q := ct_mk ml_X5_kindOfToken mg_X5_kindOfToken rfl (Nat.le_of_ble_eq_true rfl) h
theorem ml_X5_readNumber : m_l n_X5_readNumber = 4 := by decide +kernel
theorem mr_X5_readNumber : m_r n_X5_readNumber = some .boolean := by decide +kernel
theorem mh_X5_readNumber : m_hh n_X5_readNumber = [] := by decide +kernel
theorem mg_X5_readNumber : (m_gc n_X5_readNumber, m_gs n_X5_readNumber, m_al n_X5_readNumber) = (0, 0, false) := by decide +kernel
theorem ct_X5_readNumber {b : Nat} {x0 : Int32} {r1 : Nat} {w : mW} {Q : mW → mO → Prop} (h : RT n_X5_readNumber 0 [.ref b, .int x0, .ref r1, .null] [] w (0, 0, false) Q) : CT n_X5_readNumber [.ref b, .int x0, .ref r1] w Q := ct_mk ml_X5_readNumber mg_X5_readNumber rfl (Nat.le_of_ble_eq_true rfl) h
theorem ml_X5_mostOf : m_l n_X5_mostOf = 2 := by decide +kernel
theorem mr_X5_mostOf : m_r n_X5_mostOf = some .int := by decide +kernel
theorem mh_X5_mostOf : m_hh n_X5_mostOf = [] := by decide +kernel
theorem mg_X5_mostOf : (m_gc n_X5_mostOf, m_gs n_X5_mostOf, m_al n_X5_mostOf) = (0, 0, false) := by decide +kernel
theorem ct_X5_mostOf {x0 : Int32} {r1 : Nat} {w : mW} {Q : mW → mO → Prop} (h : RT n_X5_mostOf 0 [.int x0, .ref r1] [] w (0, 0, false) Q) : CT n_X5_mostOf [.int x0, .ref r1] w Q := ct_mk ml_X5_mostOf mg_X5_mostOf rfl (Nat.le_of_ble_eq_true rfl) h
theorem ml_X5_readPart : m_l n_X5_readPart = 2 := by decide +kernel
theorem mr_X5_readPart : m_r n_X5_readPart = none := by decide +kernel
theorem mh_X5_readPart : m_hh n_X5_readPart = [] := by decide +kernel
theorem mg_X5_readPart : (m_gc n_X5_readPart, m_gs n_X5_readPart, m_al n_X5_readPart) = (0, 0, false) := by decide +kernel
theorem ct_X5_readPart {b : Nat} {w : mW} {Q : mW → mO → Prop} (h : RT n_X5_readPart 0 [.ref b, .null] [] w (0, 0, false) Q) : CT n_X5_readPart [.ref b] w Q := ct_mk ml_X5_readPart mg_X5_readPart rfl (Nat.le_of_ble_eq_true rfl) h
theorem ml_X5_runOn : m_l n_X5_runOn = 5 := by decide +kernel
theorem mr_X5_runOn : m_r n_X5_runOn = some .int := by decide +kernel
theorem mh_X5_runOn : m_hh n_X5_runOn = [] := by decide +kernel
theorem mg_X5_runOn : (m_gc n_X5_runOn, m_gs n_X5_runOn, m_al n_X5_runOn) = (0, 0, false) := by decide +kernel
theorem ct_X5_runOn {b : Nat} {r0 : Nat} {r1 : Nat} {w : mW} {Q : mW → mO → Prop} (h : RT n_X5_runOn 0 [.ref b, .ref r0, .ref r1, .null, .null] [] w (0, 0, false) Q) : CT n_X5_runOn [.ref b, .ref r0, .ref r1] w Q := ct_mk ml_X5_runOn mg_X5_runOn rfl (Nat.le_of_ble_eq_true rfl) h
theorem ml_X6_init : m_l n_X6_init = 2 := by decide +kernel
theorem mr_X6_init : m_r n_X6_init = none := by decide +kernel
theorem mh_X6_init : m_hh n_X6_init = [] := by decide +kernel
theorem mg_X6_init : (m_gc n_X6_init, m_gs n_X6_init, m_al n_X6_init) = (1, 6, true) := by decide +kernel
theorem ct_X6_init {b : Nat} {r0 : Nat} {w : mW} {Q : mW → mO → Prop} (h : RT n_X6_init 0 [.ref b, .ref r0] [] w (1, 6, true) Q) : CT n_X6_init [.ref b, .ref r0] w Q := ct_mk ml_X6_init mg_X6_init rfl (Nat.le_of_ble_eq_true rfl) h
theorem ml_X6_readInto : m_l n_X6_readInto = 3 := by decide +kernel
theorem mr_X6_readInto : m_r n_X6_readInto = some .boolean := by decide +kernel
theorem mh_X6_readInto : m_hh n_X6_readInto = [] := by decide +kernel
theorem mg_X6_readInto : (m_gc n_X6_readInto, m_gs n_X6_readInto, m_al n_X6_readInto) = (0, 0, false) := by decide +kernel
theorem ct_X6_readInto {b : Nat} {r0 : Nat} {w : mW} {Q : mW → mO → Prop} (h : RT n_X6_readInto 0 [.ref b, .ref r0, .null] [] w (0, 0, false) Q) : CT n_X6_readInto [.ref b, .ref r0] w Q := ct_mk ml_X6_readInto mg_X6_readInto rfl (Nat.le_of_ble_eq_true rfl) h
theorem ml_X6_readStatement : m_l n_X6_readStatement = 3 := by decide +kernel
theorem mr_X6_readStatement : m_r n_X6_readStatement = some .boolean := by decide +kernel
theorem mh_X6_readStatement : m_hh n_X6_readStatement = [] := by decide +kernel
theorem mg_X6_readStatement : (m_gc n_X6_readStatement, m_gs n_X6_readStatement, m_al n_X6_readStatement) = (0, 0, false) := by decide +kernel
theorem ct_X6_readStatement {b : Nat} {r0 : Nat} {w : mW} {Q : mW → mO → Prop} (h : RT n_X6_readStatement 0 [.ref b, .ref r0, .null] [] w (0, 0, false) Q) : CT n_X6_readStatement [.ref b, .ref r0] w Q := ct_mk ml_X6_readStatement mg_X6_readStatement rfl (Nat.le_of_ble_eq_true rfl) h
theorem ml_X6_kindOfToken : m_l n_X6_kindOfToken = 1 := by decide +kernel
theorem mr_X6_kindOfToken : m_r n_X6_kindOfToken = some .int := by decide +kernel
theorem mh_X6_kindOfToken : m_hh n_X6_kindOfToken = [] := by decide +kernel
theorem mg_X6_kindOfToken : (m_gc n_X6_kindOfToken, m_gs n_X6_kindOfToken, m_al n_X6_kindOfToken) = (0, 0, false) := by decide +kernel
theorem ct_X6_kindOfToken {b : Nat} {w : mW} {Q : mW → mO → Prop} (h : RT n_X6_kindOfToken 0 [.ref b] [] w (0, 0, false) Q) : CT n_X6_kindOfToken [.ref b] w Q := ct_mk ml_X6_kindOfToken mg_X6_kindOfToken rfl (Nat.le_of_ble_eq_true rfl) h
theorem ml_X6_comesTooLate : m_l n_X6_comesTooLate = 3 := by decide +kernel
theorem mr_X6_comesTooLate : m_r n_X6_comesTooLate = some .boolean := by decide +kernel
theorem mh_X6_comesTooLate : m_hh n_X6_comesTooLate = [] := by decide +kernel
theorem mg_X6_comesTooLate : (m_gc n_X6_comesTooLate, m_gs n_X6_comesTooLate, m_al n_X6_comesTooLate) = (0, 0, false) := by decide +kernel
theorem ct_X6_comesTooLate {b : Nat} {x0 : Int32} {w : mW} {Q : mW → mO → Prop} (h : RT n_X6_comesTooLate 0 [.ref b, .int x0, .null] [] w (0, 0, false) Q) : CT n_X6_comesTooLate [.ref b, .int x0] w Q := ct_mk ml_X6_comesTooLate mg_X6_comesTooLate rfl (Nat.le_of_ble_eq_true rfl) h
theorem ml_X6_isFault : m_l n_X6_isFault = 1 := by decide +kernel
theorem mr_X6_isFault : m_r n_X6_isFault = some .boolean := by decide +kernel
theorem mh_X6_isFault : m_hh n_X6_isFault = [] := by decide +kernel
theorem mg_X6_isFault : (m_gc n_X6_isFault, m_gs n_X6_isFault, m_al n_X6_isFault) = (0, 0, false) := by decide +kernel
theorem ct_X6_isFault {x0 : Int32} {w : mW} {Q : mW → mO → Prop} (h : RT n_X6_isFault 0 [.int x0] [] w (0, 0, false) Q) : CT n_X6_isFault [.int x0] w Q := ct_mk ml_X6_isFault mg_X6_isFault rfl (Nat.le_of_ble_eq_true rfl) h
theorem ml_X6_faultOf : m_l n_X6_faultOf = 1 := by decide +kernel
theorem mr_X6_faultOf : m_r n_X6_faultOf = some .int := by decide +kernel
theorem mh_X6_faultOf : m_hh n_X6_faultOf = [] := by decide +kernel
theorem mg_X6_faultOf : (m_gc n_X6_faultOf, m_gs n_X6_faultOf, m_al n_X6_faultOf) = (0, 0, false) := by decide +kernel
theorem ct_X6_faultOf {x0 : Int32} {w : mW} {Q : mW → mO → Prop} (h : RT n_X6_faultOf 0 [.int x0] [] w (0, 0, false) Q) : CT n_X6_faultOf [.int x0] w Q := ct_mk ml_X6_faultOf mg_X6_faultOf rfl (Nat.le_of_ble_eq_true rfl) h
theorem ml_X6_leastOf : m_l n_X6_leastOf = 2 := by decide +kernel
theorem mr_X6_leastOf : m_r n_X6_leastOf = some .int := by decide +kernel
theorem mh_X6_leastOf : m_hh n_X6_leastOf = [] := by decide +kernel
theorem mg_X6_leastOf : (m_gc n_X6_leastOf, m_gs n_X6_leastOf, m_al n_X6_leastOf) = (0, 0, false) := by decide +kernel
theorem ct_X6_leastOf {x0 : Int32} {r1 : Nat} {w : mW} {Q : mW → mO → Prop} (h : RT n_X6_leastOf 0 [.int x0, .ref r1] [] w (0, 0, false) Q) : CT n_X6_leastOf [.int x0, .ref r1] w Q := ct_mk ml_X6_leastOf mg_X6_leastOf rfl (Nat.le_of_ble_eq_true rfl) h
theorem ml_X6_mostOf : m_l n_X6_mostOf = 2 := by decide +kernel
theorem mr_X6_mostOf : m_r n_X6_mostOf = some .int := by decide +kernel
theorem mh_X6_mostOf : m_hh n_X6_mostOf = [] := by decide +kernel
theorem mg_X6_mostOf : (m_gc n_X6_mostOf, m_gs n_X6_mostOf, m_al n_X6_mostOf) = (0, 0, false) := by decide +kernel
theorem ct_X6_mostOf {x0 : Int32} {r1 : Nat} {w : mW} {Q : mW → mO → Prop} (h : RT n_X6_mostOf 0 [.int x0, .ref r1] [] w (0, 0, false) Q) : CT n_X6_mostOf [.int x0, .ref r1] w Q := ct_mk ml_X6_mostOf mg_X6_mostOf rfl (Nat.le_of_ble_eq_true rfl) h
theorem ml_X6_put : m_l n_X6_put = 3 := by decide +kernel
theorem mr_X6_put : m_r n_X6_put = none := by decide +kernel
theorem mh_X6_put : m_hh n_X6_put = [] := by decide +kernel
theorem mg_X6_put : (m_gc n_X6_put, m_gs n_X6_put, m_al n_X6_put) = (0, 0, false) := by decide +kernel
theorem ct_X6_put {x0 : Int32} {x1 : Int32} {r2 : Nat} {w : mW} {Q : mW → mO → Prop} (h : RT n_X6_put 0 [.int x0, .int x1, .ref r2] [] w (0, 0, false) Q) : CT n_X6_put [.int x0, .int x1, .ref r2] w Q := ct_mk ml_X6_put mg_X6_put rfl (Nat.le_of_ble_eq_true rfl) h
theorem ml_X7_init : m_l n_X7_init = 2 := by decide +kernel
theorem mr_X7_init : m_r n_X7_init = none := by decide +kernel
theorem mh_X7_init : m_hh n_X7_init = [] := by decide +kernel
theorem mg_X7_init : (m_gc n_X7_init, m_gs n_X7_init, m_al n_X7_init) = (0, 0, true) := by decide +kernel
theorem ct_X7_init {b : Nat} {r0 : Nat} {w : mW} {Q : mW → mO → Prop} (h : RT n_X7_init 0 [.ref b, .ref r0] [] w (0, 0, true) Q) : CT n_X7_init [.ref b, .ref r0] w Q := ct_mk ml_X7_init mg_X7_init rfl (Nat.le_of_ble_eq_true rfl) h
theorem ml_X7_begin : m_l n_X7_begin = 1 := by decide +kernel
theorem mr_X7_begin : m_r n_X7_begin = none := by decide +kernel
theorem mh_X7_begin : m_hh n_X7_begin = [] := by decide +kernel
theorem mg_X7_begin : (m_gc n_X7_begin, m_gs n_X7_begin, m_al n_X7_begin) = (0, 0, false) := by decide +kernel
theorem ct_X7_begin {b : Nat} {w : mW} {Q : mW → mO → Prop} (h : RT n_X7_begin 0 [.ref b] [] w (0, 0, false) Q) : CT n_X7_begin [.ref b] w Q := ct_mk ml_X7_begin mg_X7_begin rfl (Nat.le_of_ble_eq_true rfl) h
theorem ml_X7_advance : m_l n_X7_advance = 1 := by decide +kernel
theorem mr_X7_advance : m_r n_X7_advance = none := by decide +kernel
theorem mh_X7_advance : m_hh n_X7_advance = [] := by decide +kernel
theorem mg_X7_advance : (m_gc n_X7_advance, m_gs n_X7_advance, m_al n_X7_advance) = (0, 0, false) := by decide +kernel
theorem ct_X7_advance {b : Nat} {w : mW} {Q : mW → mO → Prop} (h : RT n_X7_advance 0 [.ref b] [] w (0, 0, false) Q) : CT n_X7_advance [.ref b] w Q := ct_mk ml_X7_advance mg_X7_advance rfl (Nat.le_of_ble_eq_true rfl) h
theorem ml_X7_isAtEnd : m_l n_X7_isAtEnd = 1 := by decide +kernel
theorem mr_X7_isAtEnd : m_r n_X7_isAtEnd = some .boolean := by decide +kernel
theorem mh_X7_isAtEnd : m_hh n_X7_isAtEnd = [] := by decide +kernel
theorem mg_X7_isAtEnd : (m_gc n_X7_isAtEnd, m_gs n_X7_isAtEnd, m_al n_X7_isAtEnd) = (0, 0, false) := by decide +kernel
theorem ct_X7_isAtEnd {b : Nat} {w : mW} {Q : mW → mO → Prop} (h : RT n_X7_isAtEnd 0 [.ref b] [] w (0, 0, false) Q) : CT n_X7_isAtEnd [.ref b] w Q := ct_mk ml_X7_isAtEnd mg_X7_isAtEnd rfl (Nat.le_of_ble_eq_true rfl) h
theorem ml_X7_isNumber : m_l n_X7_isNumber = 1 := by decide +kernel
theorem mr_X7_isNumber : m_r n_X7_isNumber = some .boolean := by decide +kernel
theorem mh_X7_isNumber : m_hh n_X7_isNumber = [] := by decide +kernel
theorem mg_X7_isNumber : (m_gc n_X7_isNumber, m_gs n_X7_isNumber, m_al n_X7_isNumber) = (0, 0, false) := by decide +kernel
theorem ct_X7_isNumber {b : Nat} {w : mW} {Q : mW → mO → Prop} (h : RT n_X7_isNumber 0 [.ref b] [] w (0, 0, false) Q) : CT n_X7_isNumber [.ref b] w Q := ct_mk ml_X7_isNumber mg_X7_isNumber rfl (Nat.le_of_ble_eq_true rfl) h
theorem ml_X7_number : m_l n_X7_number = 1 := by decide +kernel
theorem mr_X7_number : m_r n_X7_number = some .int := by decide +kernel
theorem mh_X7_number : m_hh n_X7_number = [] := by decide +kernel
theorem mg_X7_number : (m_gc n_X7_number, m_gs n_X7_number, m_al n_X7_number) = (0, 0, false) := by decide +kernel
theorem ct_X7_number {b : Nat} {w : mW} {Q : mW → mO → Prop} (h : RT n_X7_number 0 [.ref b] [] w (0, 0, false) Q) : CT n_X7_number [.ref b] w Q := ct_mk ml_X7_number mg_X7_number rfl (Nat.le_of_ble_eq_true rfl) h
theorem ml_X7_isSign : m_l n_X7_isSign = 2 := by decide +kernel
theorem mr_X7_isSign : m_r n_X7_isSign = some .boolean := by decide +kernel
theorem mh_X7_isSign : m_hh n_X7_isSign = [] := by decide +kernel
theorem mg_X7_isSign : (m_gc n_X7_isSign, m_gs n_X7_isSign, m_al n_X7_isSign) = (0, 0, false) := by decide +kernel
theorem ct_X7_isSign {b : Nat} {x0 : Int32} {w : mW} {Q : mW → mO → Prop} (h : RT n_X7_isSign 0 [.ref b, .int x0] [] w (0, 0, false) Q) : CT n_X7_isSign [.ref b, .int x0] w Q := ct_mk ml_X7_isSign mg_X7_isSign rfl (Nat.le_of_ble_eq_true rfl) h
theorem ml_X7_isWord : m_l n_X7_isWord = 3 := by decide +kernel
theorem mr_X7_isWord : m_r n_X7_isWord = some .boolean := by decide +kernel
theorem mh_X7_isWord : m_hh n_X7_isWord = [] := by decide +kernel
theorem mg_X7_isWord : (m_gc n_X7_isWord, m_gs n_X7_isWord, m_al n_X7_isWord) = (0, 0, false) := by decide +kernel
theorem ct_X7_isWord {b : Nat} {r0 : Nat} {w : mW} {Q : mW → mO → Prop} (h : RT n_X7_isWord 0 [.ref b, .ref r0, .null] [] w (0, 0, false) Q) : CT n_X7_isWord [.ref b, .ref r0] w Q := ct_mk ml_X7_isWord mg_X7_isWord rfl (Nat.le_of_ble_eq_true rfl) h
theorem ml_X7_fail : m_l n_X7_fail = 2 := by decide +kernel
theorem mr_X7_fail : m_r n_X7_fail = some .boolean := by decide +kernel
theorem mh_X7_fail : m_hh n_X7_fail = [] := by decide +kernel
theorem mg_X7_fail : (m_gc n_X7_fail, m_gs n_X7_fail, m_al n_X7_fail) = (0, 0, false) := by decide +kernel
theorem ct_X7_fail {b : Nat} {x0 : Int32} {w : mW} {Q : mW → mO → Prop} (h : RT n_X7_fail 0 [.ref b, .int x0] [] w (0, 0, false) Q) : CT n_X7_fail [.ref b, .int x0] w Q := ct_mk ml_X7_fail mg_X7_fail rfl (Nat.le_of_ble_eq_true rfl) h
theorem ml_X7_readEnd : m_l n_X7_readEnd = 1 := by decide +kernel
theorem mr_X7_readEnd : m_r n_X7_readEnd = some .boolean := by decide +kernel
theorem mh_X7_readEnd : m_hh n_X7_readEnd = [] := by decide +kernel
theorem mg_X7_readEnd : (m_gc n_X7_readEnd, m_gs n_X7_readEnd, m_al n_X7_readEnd) = (0, 0, false) := by decide +kernel
theorem ct_X7_readEnd {b : Nat} {w : mW} {Q : mW → mO → Prop} (h : RT n_X7_readEnd 0 [.ref b] [] w (0, 0, false) Q) : CT n_X7_readEnd [.ref b] w Q := ct_mk ml_X7_readEnd mg_X7_readEnd rfl (Nat.le_of_ble_eq_true rfl) h
theorem ml_X7_checkNumber : m_l n_X7_checkNumber = 3 := by decide +kernel
theorem mr_X7_checkNumber : m_r n_X7_checkNumber = some .boolean := by decide +kernel
theorem mh_X7_checkNumber : m_hh n_X7_checkNumber = [] := by decide +kernel
theorem mg_X7_checkNumber : (m_gc n_X7_checkNumber, m_gs n_X7_checkNumber, m_al n_X7_checkNumber) = (0, 0, false) := by decide +kernel
theorem ct_X7_checkNumber {b : Nat} {x0 : Int32} {x1 : Int32} {w : mW} {Q : mW → mO → Prop} (h : RT n_X7_checkNumber 0 [.ref b, .int x0, .int x1] [] w (0, 0, false) Q) : CT n_X7_checkNumber [.ref b, .int x0, .int x1] w Q := ct_mk ml_X7_checkNumber mg_X7_checkNumber rfl (Nat.le_of_ble_eq_true rfl) h
theorem ml_X7_readWord : m_l n_X7_readWord = 1 := by decide +kernel
theorem mr_X7_readWord : m_r n_X7_readWord = none := by decide +kernel
theorem mh_X7_readWord : m_hh n_X7_readWord = [] := by decide +kernel
theorem mg_X7_readWord : (m_gc n_X7_readWord, m_gs n_X7_readWord, m_al n_X7_readWord) = (0, 0, false) := by decide +kernel
theorem ct_X7_readWord {b : Nat} {w : mW} {Q : mW → mO → Prop} (h : RT n_X7_readWord 0 [.ref b] [] w (0, 0, false) Q) : CT n_X7_readWord [.ref b] w Q := ct_mk ml_X7_readWord mg_X7_readWord rfl (Nat.le_of_ble_eq_true rfl) h
theorem ml_X7_readNumber : m_l n_X7_readNumber = 1 := by decide +kernel
theorem mr_X7_readNumber : m_r n_X7_readNumber = none := by decide +kernel
theorem mh_X7_readNumber : m_hh n_X7_readNumber = [] := by decide +kernel
theorem mg_X7_readNumber : (m_gc n_X7_readNumber, m_gs n_X7_readNumber, m_al n_X7_readNumber) = (0, 0, false) := by decide +kernel
theorem ct_X7_readNumber {b : Nat} {w : mW} {Q : mW → mO → Prop} (h : RT n_X7_readNumber 0 [.ref b] [] w (0, 0, false) Q) : CT n_X7_readNumber [.ref b] w Q := ct_mk ml_X7_readNumber mg_X7_readNumber rfl (Nat.le_of_ble_eq_true rfl) h
theorem ml_X7_isBlank : m_l n_X7_isBlank = 1 := by decide +kernel
theorem mr_X7_isBlank : m_r n_X7_isBlank = some .boolean := by decide +kernel
theorem mh_X7_isBlank : m_hh n_X7_isBlank = [] := by decide +kernel
theorem mg_X7_isBlank : (m_gc n_X7_isBlank, m_gs n_X7_isBlank, m_al n_X7_isBlank) = (0, 0, false) := by decide +kernel
theorem ct_X7_isBlank {x0 : Int32} {w : mW} {Q : mW → mO → Prop} (h : RT n_X7_isBlank 0 [.int x0] [] w (0, 0, false) Q) : CT n_X7_isBlank [.int x0] w Q := ct_mk ml_X7_isBlank mg_X7_isBlank rfl (Nat.le_of_ble_eq_true rfl) h
theorem ml_X7_isLetter : m_l n_X7_isLetter = 1 := by decide +kernel
theorem mr_X7_isLetter : m_r n_X7_isLetter = some .boolean := by decide +kernel
theorem mh_X7_isLetter : m_hh n_X7_isLetter = [] := by decide +kernel
theorem mg_X7_isLetter : (m_gc n_X7_isLetter, m_gs n_X7_isLetter, m_al n_X7_isLetter) = (0, 0, false) := by decide +kernel
theorem ct_X7_isLetter {x0 : Int32} {w : mW} {Q : mW → mO → Prop} (h : RT n_X7_isLetter 0 [.int x0] [] w (0, 0, false) Q) : CT n_X7_isLetter [.int x0] w Q := ct_mk ml_X7_isLetter mg_X7_isLetter rfl (Nat.le_of_ble_eq_true rfl) h
theorem ml_X7_isDigit : m_l n_X7_isDigit = 1 := by decide +kernel
theorem mr_X7_isDigit : m_r n_X7_isDigit = some .boolean := by decide +kernel
theorem mh_X7_isDigit : m_hh n_X7_isDigit = [] := by decide +kernel
theorem mg_X7_isDigit : (m_gc n_X7_isDigit, m_gs n_X7_isDigit, m_al n_X7_isDigit) = (0, 0, false) := by decide +kernel
theorem ct_X7_isDigit {x0 : Int32} {w : mW} {Q : mW → mO → Prop} (h : RT n_X7_isDigit 0 [.int x0] [] w (0, 0, false) Q) : CT n_X7_isDigit [.int x0] w Q := ct_mk ml_X7_isDigit mg_X7_isDigit rfl (Nat.le_of_ble_eq_true rfl) h
theorem ml_X8_init : m_l n_X8_init = 1 := by decide +kernel
theorem mr_X8_init : m_r n_X8_init = none := by decide +kernel
theorem mh_X8_init : m_hh n_X8_init = [] := by decide +kernel
theorem mg_X8_init : (m_gc n_X8_init, m_gs n_X8_init, m_al n_X8_init) = (1, 120, true) := by decide +kernel
theorem ct_X8_init {b : Nat} {w : mW} {Q : mW → mO → Prop} (h : RT n_X8_init 0 [.ref b] [] w (1, 120, true) Q) : CT n_X8_init [.ref b] w Q := ct_mk ml_X8_init mg_X8_init rfl (Nat.le_of_ble_eq_true rfl) h
theorem ml_X8_forgetAll : m_l n_X8_forgetAll = 1 := by decide +kernel
theorem mr_X8_forgetAll : m_r n_X8_forgetAll = none := by decide +kernel
theorem mh_X8_forgetAll : m_hh n_X8_forgetAll = [] := by decide +kernel
theorem mg_X8_forgetAll : (m_gc n_X8_forgetAll, m_gs n_X8_forgetAll, m_al n_X8_forgetAll) = (0, 0, false) := by decide +kernel
theorem ct_X8_forgetAll {b : Nat} {w : mW} {Q : mW → mO → Prop} (h : RT n_X8_forgetAll 0 [.ref b] [] w (0, 0, false) Q) : CT n_X8_forgetAll [.ref b] w Q := ct_mk ml_X8_forgetAll mg_X8_forgetAll rfl (Nat.le_of_ble_eq_true rfl) h
theorem ml_X8_copyFrom : m_l n_X8_copyFrom = 2 := by decide +kernel
theorem mr_X8_copyFrom : m_r n_X8_copyFrom = none := by decide +kernel
theorem mh_X8_copyFrom : m_hh n_X8_copyFrom = [] := by decide +kernel
theorem mg_X8_copyFrom : (m_gc n_X8_copyFrom, m_gs n_X8_copyFrom, m_al n_X8_copyFrom) = (0, 0, false) := by decide +kernel
theorem ct_X8_copyFrom {b : Nat} {r0 : Nat} {w : mW} {Q : mW → mO → Prop} (h : RT n_X8_copyFrom 0 [.ref b, .ref r0] [] w (0, 0, false) Q) : CT n_X8_copyFrom [.ref b, .ref r0] w Q := ct_mk ml_X8_copyFrom mg_X8_copyFrom rfl (Nat.le_of_ble_eq_true rfl) h
theorem ml_X8_add : m_l n_X8_add = 6 := by decide +kernel
theorem mr_X8_add : m_r n_X8_add = none := by decide +kernel
theorem mh_X8_add : m_hh n_X8_add = [] := by decide +kernel
theorem mg_X8_add : (m_gc n_X8_add, m_gs n_X8_add, m_al n_X8_add) = (0, 0, false) := by decide +kernel
theorem ct_X8_add {b : Nat} {x0 : Int32} {x1 : Int32} {x2 : Int32} {x3 : Int32} {w : mW} {Q : mW → mO → Prop} (h : RT n_X8_add 0 [.ref b, .int x0, .int x1, .int x2, .int x3, .null] [] w (0, 0, false) Q) : CT n_X8_add [.ref b, .int x0, .int x1, .int x2, .int x3] w Q := ct_mk ml_X8_add mg_X8_add rfl (Nat.le_of_ble_eq_true rfl) h
theorem ml_X8_entry : m_l n_X8_entry = 3 := by decide +kernel
theorem mr_X8_entry : m_r n_X8_entry = some .int := by decide +kernel
theorem mh_X8_entry : m_hh n_X8_entry = [] := by decide +kernel
theorem mg_X8_entry : (m_gc n_X8_entry, m_gs n_X8_entry, m_al n_X8_entry) = (0, 0, false) := by decide +kernel
theorem ct_X8_entry {b : Nat} {x0 : Int32} {x1 : Int32} {w : mW} {Q : mW → mO → Prop} (h : RT n_X8_entry 0 [.ref b, .int x0, .int x1] [] w (0, 0, false) Q) : CT n_X8_entry [.ref b, .int x0, .int x1] w Q := ct_mk ml_X8_entry mg_X8_entry rfl (Nat.le_of_ble_eq_true rfl) h
theorem ml_X9_init : m_l n_X9_init = 2 := by decide +kernel
theorem mr_X9_init : m_r n_X9_init = none := by decide +kernel
theorem mh_X9_init : m_hh n_X9_init = [] := by decide +kernel
theorem mg_X9_init : (m_gc n_X9_init, m_gs n_X9_init, m_al n_X9_init) = (208, 5134, true) := by decide +kernel
theorem ct_X9_init {b : Nat} {w : mW} {Q : mW → mO → Prop} (h : RT n_X9_init 0 [.ref b, .null] [] w (208, 5134, true) Q) : CT n_X9_init [.ref b] w Q := ct_mk ml_X9_init mg_X9_init rfl (Nat.le_of_ble_eq_true rfl) h
theorem ml_X9_append : m_l n_X9_append = 6 := by decide +kernel
theorem mr_X9_append : m_r n_X9_append = some .int := by decide +kernel
theorem mh_X9_append : m_hh n_X9_append = [] := by decide +kernel
theorem mg_X9_append : (m_gc n_X9_append, m_gs n_X9_append, m_al n_X9_append) = (1, 6, false) := by decide +kernel
theorem ct_X9_append {b : Nat} {x0 : Int32} {x1 : Int32} {x2 : Int32} {x3 : Int32} {x4 : Int32} {w : mW} {Q : mW → mO → Prop} (h : RT n_X9_append 0 [.ref b, .int x0, .int x1, .int x2, .int x3, .int x4] [] w (1, 6, false) Q) : CT n_X9_append [.ref b, .int x0, .int x1, .int x2, .int x3, .int x4] w Q := ct_mk ml_X9_append mg_X9_append rfl (Nat.le_of_ble_eq_true rfl) h
theorem ml_X9_truncate : m_l n_X9_truncate = 2 := by decide +kernel
theorem mr_X9_truncate : m_r n_X9_truncate = some .int := by decide +kernel
theorem mh_X9_truncate : m_hh n_X9_truncate = [] := by decide +kernel
theorem mg_X9_truncate : (m_gc n_X9_truncate, m_gs n_X9_truncate, m_al n_X9_truncate) = (1, 6, false) := by decide +kernel
theorem ct_X9_truncate {b : Nat} {x0 : Int32} {w : mW} {Q : mW → mO → Prop} (h : RT n_X9_truncate 0 [.ref b, .int x0] [] w (1, 6, false) Q) : CT n_X9_truncate [.ref b, .int x0] w Q := ct_mk ml_X9_truncate mg_X9_truncate rfl (Nat.le_of_ble_eq_true rfl) h
theorem ml_X9_setup : m_l n_X9_setup = 3 := by decide +kernel
theorem mr_X9_setup : m_r n_X9_setup = some .int := by decide +kernel
theorem mh_X9_setup : m_hh n_X9_setup = [] := by decide +kernel
theorem mg_X9_setup : (m_gc n_X9_setup, m_gs n_X9_setup, m_al n_X9_setup) = (0, 0, false) := by decide +kernel
theorem ct_X9_setup {b : Nat} {w : mW} {Q : mW → mO → Prop} (h : RT n_X9_setup 0 [.ref b, .null, .null] [] w (0, 0, false) Q) : CT n_X9_setup [.ref b] w Q := ct_mk ml_X9_setup mg_X9_setup rfl (Nat.le_of_ble_eq_true rfl) h
theorem ml_X9_script : m_l n_X9_script = 2 := by decide +kernel
theorem mr_X9_script : m_r n_X9_script = some .int := by decide +kernel
theorem mh_X9_script : m_hh n_X9_script = [] := by decide +kernel
theorem mg_X9_script : (m_gc n_X9_script, m_gs n_X9_script, m_al n_X9_script) = (1, 6, false) := by decide +kernel
theorem ct_X9_script {b : Nat} {w : mW} {Q : mW → mO → Prop} (h : RT n_X9_script 0 [.ref b, .null] [] w (1, 6, false) Q) : CT n_X9_script [.ref b] w Q := ct_mk ml_X9_script mg_X9_script rfl (Nat.le_of_ble_eq_true rfl) h
theorem ml_X9_errorCode : m_l n_X9_errorCode = 1 := by decide +kernel
theorem mr_X9_errorCode : m_r n_X9_errorCode = some .int := by decide +kernel
theorem mh_X9_errorCode : m_hh n_X9_errorCode = [] := by decide +kernel
theorem mg_X9_errorCode : (m_gc n_X9_errorCode, m_gs n_X9_errorCode, m_al n_X9_errorCode) = (0, 0, false) := by decide +kernel
theorem ct_X9_errorCode {b : Nat} {w : mW} {Q : mW → mO → Prop} (h : RT n_X9_errorCode 0 [.ref b] [] w (0, 0, false) Q) : CT n_X9_errorCode [.ref b] w Q := ct_mk ml_X9_errorCode mg_X9_errorCode rfl (Nat.le_of_ble_eq_true rfl) h
theorem ml_X9_errorPosition : m_l n_X9_errorPosition = 1 := by decide +kernel
theorem mr_X9_errorPosition : m_r n_X9_errorPosition = some .int := by decide +kernel
theorem mh_X9_errorPosition : m_hh n_X9_errorPosition = [] := by decide +kernel
theorem mg_X9_errorPosition : (m_gc n_X9_errorPosition, m_gs n_X9_errorPosition, m_al n_X9_errorPosition) = (0, 0, false) := by decide +kernel
theorem ct_X9_errorPosition {b : Nat} {w : mW} {Q : mW → mO → Prop} (h : RT n_X9_errorPosition 0 [.ref b] [] w (0, 0, false) Q) : CT n_X9_errorPosition [.ref b] w Q := ct_mk ml_X9_errorPosition mg_X9_errorPosition rfl (Nat.le_of_ble_eq_true rfl) h
theorem ml_X9_setPin : m_l n_X9_setPin = 4 := by decide +kernel
theorem mr_X9_setPin : m_r n_X9_setPin = some .int := by decide +kernel
theorem mh_X9_setPin : m_hh n_X9_setPin = [] := by decide +kernel
theorem mg_X9_setPin : (m_gc n_X9_setPin, m_gs n_X9_setPin, m_al n_X9_setPin) = (3, 18, false) := by decide +kernel
theorem ct_X9_setPin {b : Nat} {x0 : Int32} {x1 : Int32} {w : mW} {Q : mW → mO → Prop} (h : RT n_X9_setPin 0 [.ref b, .int x0, .int x1, .null] [] w (3, 18, false) Q) : CT n_X9_setPin [.ref b, .int x0, .int x1] w Q := ct_mk ml_X9_setPin mg_X9_setPin rfl (Nat.le_of_ble_eq_true rfl) h
theorem ml_X9_setPins : m_l n_X9_setPins = 3 := by decide +kernel
theorem mr_X9_setPins : m_r n_X9_setPins = some .int := by decide +kernel
theorem mh_X9_setPins : m_hh n_X9_setPins = [] := by decide +kernel
theorem mg_X9_setPins : (m_gc n_X9_setPins, m_gs n_X9_setPins, m_al n_X9_setPins) = (2, 12, false) := by decide +kernel
theorem ct_X9_setPins {b : Nat} {x0 : Int32} {w : mW} {Q : mW → mO → Prop} (h : RT n_X9_setPins 0 [.ref b, .int x0, .null] [] w (2, 12, false) Q) : CT n_X9_setPins [.ref b, .int x0] w Q := ct_mk ml_X9_setPins mg_X9_setPins rfl (Nat.le_of_ble_eq_true rfl) h
theorem ml_X9_turn : m_l n_X9_turn = 2 := by decide +kernel
theorem mr_X9_turn : m_r n_X9_turn = some .int := by decide +kernel
theorem mh_X9_turn : m_hh n_X9_turn = [] := by decide +kernel
theorem mg_X9_turn : (m_gc n_X9_turn, m_gs n_X9_turn, m_al n_X9_turn) = (2, 12, false) := by decide +kernel
theorem ct_X9_turn {b : Nat} {x0 : Int32} {w : mW} {Q : mW → mO → Prop} (h : RT n_X9_turn 0 [.ref b, .int x0] [] w (2, 12, false) Q) : CT n_X9_turn [.ref b, .int x0] w Q := ct_mk ml_X9_turn mg_X9_turn rfl (Nat.le_of_ble_eq_true rfl) h
theorem ml_X9_shift : m_l n_X9_shift = 4 := by decide +kernel
theorem mr_X9_shift : m_r n_X9_shift = some .int := by decide +kernel
theorem mh_X9_shift : m_hh n_X9_shift = [] := by decide +kernel
theorem mg_X9_shift : (m_gc n_X9_shift, m_gs n_X9_shift, m_al n_X9_shift) = (2, 12, false) := by decide +kernel
theorem ct_X9_shift {b : Nat} {x0 : Int32} {w : mW} {Q : mW → mO → Prop} (h : RT n_X9_shift 0 [.ref b, .int x0, .null, .null] [] w (2, 12, false) Q) : CT n_X9_shift [.ref b, .int x0] w Q := ct_mk ml_X9_shift mg_X9_shift rfl (Nat.le_of_ble_eq_true rfl) h
theorem ml_X9_clear : m_l n_X9_clear = 2 := by decide +kernel
theorem mr_X9_clear : m_r n_X9_clear = some .int := by decide +kernel
theorem mh_X9_clear : m_hh n_X9_clear = [] := by decide +kernel
theorem mg_X9_clear : (m_gc n_X9_clear, m_gs n_X9_clear, m_al n_X9_clear) = (2, 12, false) := by decide +kernel
theorem ct_X9_clear {b : Nat} {x0 : Int32} {w : mW} {Q : mW → mO → Prop} (h : RT n_X9_clear 0 [.ref b, .int x0] [] w (2, 12, false) Q) : CT n_X9_clear [.ref b, .int x0] w Q := ct_mk ml_X9_clear mg_X9_clear rfl (Nat.le_of_ble_eq_true rfl) h
theorem ml_X9_multiply : m_l n_X9_multiply = 3 := by decide +kernel
theorem mr_X9_multiply : m_r n_X9_multiply = some .int := by decide +kernel
theorem mh_X9_multiply : m_hh n_X9_multiply = [] := by decide +kernel
theorem mg_X9_multiply : (m_gc n_X9_multiply, m_gs n_X9_multiply, m_al n_X9_multiply) = (3, 18, false) := by decide +kernel
theorem ct_X9_multiply {b : Nat} {x0 : Int32} {x1 : Int32} {w : mW} {Q : mW → mO → Prop} (h : RT n_X9_multiply 0 [.ref b, .int x0, .int x1] [] w (3, 18, false) Q) : CT n_X9_multiply [.ref b, .int x0, .int x1] w Q := ct_mk ml_X9_multiply mg_X9_multiply rfl (Nat.le_of_ble_eq_true rfl) h
theorem ml_X9_divide : m_l n_X9_divide = 1 := by decide +kernel
theorem mr_X9_divide : m_r n_X9_divide = some .int := by decide +kernel
theorem mh_X9_divide : m_hh n_X9_divide = [] := by decide +kernel
theorem mg_X9_divide : (m_gc n_X9_divide, m_gs n_X9_divide, m_al n_X9_divide) = (2, 12, false) := by decide +kernel
theorem ct_X9_divide {b : Nat} {w : mW} {Q : mW → mO → Prop} (h : RT n_X9_divide 0 [.ref b] [] w (2, 12, false) Q) : CT n_X9_divide [.ref b] w Q := ct_mk ml_X9_divide mg_X9_divide rfl (Nat.le_of_ble_eq_true rfl) h
theorem ml_X9_transfer : m_l n_X9_transfer = 1 := by decide +kernel
theorem mr_X9_transfer : m_r n_X9_transfer = some .int := by decide +kernel
theorem mh_X9_transfer : m_hh n_X9_transfer = [] := by decide +kernel
theorem mg_X9_transfer : (m_gc n_X9_transfer, m_gs n_X9_transfer, m_al n_X9_transfer) = (1, 6, false) := by decide +kernel
theorem ct_X9_transfer {b : Nat} {w : mW} {Q : mW → mO → Prop} (h : RT n_X9_transfer 0 [.ref b] [] w (1, 6, false) Q) : CT n_X9_transfer [.ref b] w Q := ct_mk ml_X9_transfer mg_X9_transfer rfl (Nat.le_of_ble_eq_true rfl) h
theorem ml_X9_crankBack : m_l n_X9_crankBack = 1 := by decide +kernel
theorem mr_X9_crankBack : m_r n_X9_crankBack = some .int := by decide +kernel
theorem mh_X9_crankBack : m_hh n_X9_crankBack = [] := by decide +kernel
theorem mg_X9_crankBack : (m_gc n_X9_crankBack, m_gs n_X9_crankBack, m_al n_X9_crankBack) = (1, 6, false) := by decide +kernel
theorem ct_X9_crankBack {b : Nat} {w : mW} {Q : mW → mO → Prop} (h : RT n_X9_crankBack 0 [.ref b] [] w (1, 6, false) Q) : CT n_X9_crankBack [.ref b] w Q := ct_mk ml_X9_crankBack mg_X9_crankBack rfl (Nat.le_of_ble_eq_true rfl) h
theorem ml_X9_free : m_l n_X9_free = 1 := by decide +kernel
theorem mr_X9_free : m_r n_X9_free = some .int := by decide +kernel
theorem mh_X9_free : m_hh n_X9_free = [] := by decide +kernel
theorem mg_X9_free : (m_gc n_X9_free, m_gs n_X9_free, m_al n_X9_free) = (1, 6, false) := by decide +kernel
theorem ct_X9_free {b : Nat} {w : mW} {Q : mW → mO → Prop} (h : RT n_X9_free 0 [.ref b] [] w (1, 6, false) Q) : CT n_X9_free [.ref b] w Q := ct_mk ml_X9_free mg_X9_free rfl (Nat.le_of_ble_eq_true rfl) h
theorem ml_X9_damage : m_l n_X9_damage = 3 := by decide +kernel
theorem mr_X9_damage : m_r n_X9_damage = some .int := by decide +kernel
theorem mh_X9_damage : m_hh n_X9_damage = [] := by decide +kernel
theorem mg_X9_damage : (m_gc n_X9_damage, m_gs n_X9_damage, m_al n_X9_damage) = (3, 18, false) := by decide +kernel
theorem ct_X9_damage {b : Nat} {x0 : Int32} {x1 : Int32} {w : mW} {Q : mW → mO → Prop} (h : RT n_X9_damage 0 [.ref b, .int x0, .int x1] [] w (3, 18, false) Q) : CT n_X9_damage [.ref b, .int x0, .int x1] w Q := ct_mk ml_X9_damage mg_X9_damage rfl (Nat.le_of_ble_eq_true rfl) h
theorem ml_X9_repair : m_l n_X9_repair = 3 := by decide +kernel
theorem mr_X9_repair : m_r n_X9_repair = some .int := by decide +kernel
theorem mh_X9_repair : m_hh n_X9_repair = [] := by decide +kernel
theorem mg_X9_repair : (m_gc n_X9_repair, m_gs n_X9_repair, m_al n_X9_repair) = (2, 12, false) := by decide +kernel
theorem ct_X9_repair {b : Nat} {x0 : Int32} {w : mW} {Q : mW → mO → Prop} (h : RT n_X9_repair 0 [.ref b, .int x0, .null] [] w (2, 12, false) Q) : CT n_X9_repair [.ref b, .int x0] w Q := ct_mk ml_X9_repair mg_X9_repair rfl (Nat.le_of_ble_eq_true rfl) h
theorem ml_X9_state : m_l n_X9_state = 2 := by decide +kernel
theorem mr_X9_state : m_r n_X9_state = some .int := by decide +kernel
theorem mh_X9_state : m_hh n_X9_state = [] := by decide +kernel
theorem mg_X9_state : (m_gc n_X9_state, m_gs n_X9_state, m_al n_X9_state) = (1, 6, false) := by decide +kernel
theorem ct_X9_state {b : Nat} {x0 : Int32} {w : mW} {Q : mW → mO → Prop} (h : RT n_X9_state 0 [.ref b, .int x0] [] w (1, 6, false) Q) : CT n_X9_state [.ref b, .int x0] w Q := ct_mk ml_X9_state mg_X9_state rfl (Nat.le_of_ble_eq_true rfl) h
theorem ml_X9_count : m_l n_X9_count = 2 := by decide +kernel
theorem mr_X9_count : m_r n_X9_count = some .int := by decide +kernel
theorem mh_X9_count : m_hh n_X9_count = [] := by decide +kernel
theorem mg_X9_count : (m_gc n_X9_count, m_gs n_X9_count, m_al n_X9_count) = (1, 6, false) := by decide +kernel
theorem ct_X9_count {b : Nat} {x0 : Int32} {w : mW} {Q : mW → mO → Prop} (h : RT n_X9_count 0 [.ref b, .int x0] [] w (1, 6, false) Q) : CT n_X9_count [.ref b, .int x0] w Q := ct_mk ml_X9_count mg_X9_count rfl (Nat.le_of_ble_eq_true rfl) h
theorem ml_X9_digit : m_l n_X9_digit = 2 := by decide +kernel
theorem mr_X9_digit : m_r n_X9_digit = some .int := by decide +kernel
theorem mh_X9_digit : m_hh n_X9_digit = [] := by decide +kernel
theorem mg_X9_digit : (m_gc n_X9_digit, m_gs n_X9_digit, m_al n_X9_digit) = (1, 6, false) := by decide +kernel
theorem ct_X9_digit {b : Nat} {x0 : Int32} {w : mW} {Q : mW → mO → Prop} (h : RT n_X9_digit 0 [.ref b, .int x0] [] w (1, 6, false) Q) : CT n_X9_digit [.ref b, .int x0] w Q := ct_mk ml_X9_digit mg_X9_digit rfl (Nat.le_of_ble_eq_true rfl) h
theorem ml_X9_counterDigit : m_l n_X9_counterDigit = 2 := by decide +kernel
theorem mr_X9_counterDigit : m_r n_X9_counterDigit = some .int := by decide +kernel
theorem mh_X9_counterDigit : m_hh n_X9_counterDigit = [] := by decide +kernel
theorem mg_X9_counterDigit : (m_gc n_X9_counterDigit, m_gs n_X9_counterDigit, m_al n_X9_counterDigit) = (1, 6, false) := by decide +kernel
theorem ct_X9_counterDigit {b : Nat} {x0 : Int32} {w : mW} {Q : mW → mO → Prop} (h : RT n_X9_counterDigit 0 [.ref b, .int x0] [] w (1, 6, false) Q) : CT n_X9_counterDigit [.ref b, .int x0] w Q := ct_mk ml_X9_counterDigit mg_X9_counterDigit rfl (Nat.le_of_ble_eq_true rfl) h
theorem ml_X9_pin : m_l n_X9_pin = 2 := by decide +kernel
theorem mr_X9_pin : m_r n_X9_pin = some .int := by decide +kernel
theorem mh_X9_pin : m_hh n_X9_pin = [] := by decide +kernel
theorem mg_X9_pin : (m_gc n_X9_pin, m_gs n_X9_pin, m_al n_X9_pin) = (1, 6, false) := by decide +kernel
theorem ct_X9_pin {b : Nat} {x0 : Int32} {w : mW} {Q : mW → mO → Prop} (h : RT n_X9_pin 0 [.ref b, .int x0] [] w (1, 6, false) Q) : CT n_X9_pin [.ref b, .int x0] w Q := ct_mk ml_X9_pin mg_X9_pin rfl (Nat.le_of_ble_eq_true rfl) h
theorem ml_X9_result : m_l n_X9_result = 1 := by decide +kernel
theorem mr_X9_result : m_r n_X9_result = some .long := by decide +kernel
theorem mh_X9_result : m_hh n_X9_result = [] := by decide +kernel
theorem mg_X9_result : (m_gc n_X9_result, m_gs n_X9_result, m_al n_X9_result) = (0, 0, false) := by decide +kernel
theorem ct_X9_result {b : Nat} {w : mW} {Q : mW → mO → Prop} (h : RT n_X9_result 0 [.ref b] [] w (0, 0, false) Q) : CT n_X9_result [.ref b] w Q := ct_mk ml_X9_result mg_X9_result rfl (Nat.le_of_ble_eq_true rfl) h
theorem ml_X9_counter : m_l n_X9_counter = 1 := by decide +kernel
theorem mr_X9_counter : m_r n_X9_counter = some .int := by decide +kernel
theorem mh_X9_counter : m_hh n_X9_counter = [] := by decide +kernel
theorem mg_X9_counter : (m_gc n_X9_counter, m_gs n_X9_counter, m_al n_X9_counter) = (0, 0, false) := by decide +kernel
theorem ct_X9_counter {b : Nat} {w : mW} {Q : mW → mO → Prop} (h : RT n_X9_counter 0 [.ref b] [] w (0, 0, false) Q) : CT n_X9_counter [.ref b] w Q := ct_mk ml_X9_counter mg_X9_counter rfl (Nat.le_of_ble_eq_true rfl) h
theorem ml_X9_complement : m_l n_X9_complement = 1 := by decide +kernel
theorem mr_X9_complement : m_r n_X9_complement = some .long := by decide +kernel
theorem mh_X9_complement : m_hh n_X9_complement = [] := by decide +kernel
theorem mg_X9_complement : (m_gc n_X9_complement, m_gs n_X9_complement, m_al n_X9_complement) = (0, 0, false) := by decide +kernel
theorem ct_X9_complement {b : Nat} {w : mW} {Q : mW → mO → Prop} (h : RT n_X9_complement 0 [.ref b] [] w (0, 0, false) Q) : CT n_X9_complement [.ref b] w Q := ct_mk ml_X9_complement mg_X9_complement rfl (Nat.le_of_ble_eq_true rfl) h
theorem ml_X9_fault : m_l n_X9_fault = 2 := by decide +kernel
theorem mr_X9_fault : m_r n_X9_fault = some .int := by decide +kernel
theorem mh_X9_fault : m_hh n_X9_fault = [] := by decide +kernel
theorem mg_X9_fault : (m_gc n_X9_fault, m_gs n_X9_fault, m_al n_X9_fault) = (1, 6, false) := by decide +kernel
theorem ct_X9_fault {b : Nat} {x0 : Int32} {w : mW} {Q : mW → mO → Prop} (h : RT n_X9_fault 0 [.ref b, .int x0] [] w (1, 6, false) Q) : CT n_X9_fault [.ref b, .int x0] w Q := ct_mk ml_X9_fault mg_X9_fault rfl (Nat.le_of_ble_eq_true rfl) h
theorem ml_X9_isLeverSet : m_l n_X9_isLeverSet = 2 := by decide +kernel
theorem mr_X9_isLeverSet : m_r n_X9_isLeverSet = some .boolean := by decide +kernel
theorem mh_X9_isLeverSet : m_hh n_X9_isLeverSet = [] := by decide +kernel
theorem mg_X9_isLeverSet : (m_gc n_X9_isLeverSet, m_gs n_X9_isLeverSet, m_al n_X9_isLeverSet) = (1, 6, false) := by decide +kernel
theorem ct_X9_isLeverSet {b : Nat} {x0 : Int32} {w : mW} {Q : mW → mO → Prop} (h : RT n_X9_isLeverSet 0 [.ref b, .int x0] [] w (1, 6, false) Q) : CT n_X9_isLeverSet [.ref b, .int x0] w Q := ct_mk ml_X9_isLeverSet mg_X9_isLeverSet rfl (Nat.le_of_ble_eq_true rfl) h
theorem ml_X9_jam : m_l n_X9_jam = 2 := by decide +kernel
theorem mr_X9_jam : m_r n_X9_jam = some .int := by decide +kernel
theorem mh_X9_jam : m_hh n_X9_jam = [] := by decide +kernel
theorem mg_X9_jam : (m_gc n_X9_jam, m_gs n_X9_jam, m_al n_X9_jam) = (2, 12, false) := by decide +kernel
theorem ct_X9_jam {b : Nat} {x0 : Int32} {w : mW} {Q : mW → mO → Prop} (h : RT n_X9_jam 0 [.ref b, .int x0] [] w (2, 12, false) Q) : CT n_X9_jam [.ref b, .int x0] w Q := ct_mk ml_X9_jam mg_X9_jam rfl (Nat.le_of_ble_eq_true rfl) h
theorem ml_X9_steps : m_l n_X9_steps = 2 := by decide +kernel
theorem mr_X9_steps : m_r n_X9_steps = some .int := by decide +kernel
theorem mh_X9_steps : m_hh n_X9_steps = [] := by decide +kernel
theorem mg_X9_steps : (m_gc n_X9_steps, m_gs n_X9_steps, m_al n_X9_steps) = (1, 6, false) := by decide +kernel
theorem ct_X9_steps {b : Nat} {x0 : Int32} {w : mW} {Q : mW → mO → Prop} (h : RT n_X9_steps 0 [.ref b, .int x0] [] w (1, 6, false) Q) : CT n_X9_steps [.ref b, .int x0] w Q := ct_mk ml_X9_steps mg_X9_steps rfl (Nat.le_of_ble_eq_true rfl) h
theorem ml_X9_busiest : m_l n_X9_busiest = 1 := by decide +kernel
theorem mr_X9_busiest : m_r n_X9_busiest = some .int := by decide +kernel
theorem mh_X9_busiest : m_hh n_X9_busiest = [] := by decide +kernel
theorem mg_X9_busiest : (m_gc n_X9_busiest, m_gs n_X9_busiest, m_al n_X9_busiest) = (0, 0, false) := by decide +kernel
theorem ct_X9_busiest {b : Nat} {w : mW} {Q : mW → mO → Prop} (h : RT n_X9_busiest 0 [.ref b] [] w (0, 0, false) Q) : CT n_X9_busiest [.ref b] w Q := ct_mk ml_X9_busiest mg_X9_busiest rfl (Nat.le_of_ble_eq_true rfl) h
theorem ml_X9_logged : m_l n_X9_logged = 3 := by decide +kernel
theorem mr_X9_logged : m_r n_X9_logged = some .int := by decide +kernel
theorem mh_X9_logged : m_hh n_X9_logged = [] := by decide +kernel
theorem mg_X9_logged : (m_gc n_X9_logged, m_gs n_X9_logged, m_al n_X9_logged) = (1, 6, false) := by decide +kernel
theorem ct_X9_logged {b : Nat} {x0 : Int32} {x1 : Int32} {w : mW} {Q : mW → mO → Prop} (h : RT n_X9_logged 0 [.ref b, .int x0, .int x1] [] w (1, 6, false) Q) : CT n_X9_logged [.ref b, .int x0, .int x1] w Q := ct_mk ml_X9_logged mg_X9_logged rfl (Nat.le_of_ble_eq_true rfl) h
theorem ml_X9_show : m_l n_X9_show = 3 := by decide +kernel
theorem mr_X9_show : m_r n_X9_show = some .int := by decide +kernel
theorem mh_X9_show : m_hh n_X9_show = [] := by decide +kernel
theorem mg_X9_show : (m_gc n_X9_show, m_gs n_X9_show, m_al n_X9_show) = (0, 0, false) := by decide +kernel
theorem ct_X9_show {b : Nat} {w : mW} {Q : mW → mO → Prop} (h : RT n_X9_show 0 [.ref b, .null, .null] [] w (0, 0, false) Q) : CT n_X9_show [.ref b] w Q := ct_mk ml_X9_show mg_X9_show rfl (Nat.le_of_ble_eq_true rfl) h
theorem ml_X9_textByte : m_l n_X9_textByte = 2 := by decide +kernel
theorem mr_X9_textByte : m_r n_X9_textByte = some .int := by decide +kernel
theorem mh_X9_textByte : m_hh n_X9_textByte = [] := by decide +kernel
theorem mg_X9_textByte : (m_gc n_X9_textByte, m_gs n_X9_textByte, m_al n_X9_textByte) = (1, 6, false) := by decide +kernel
theorem ct_X9_textByte {b : Nat} {x0 : Int32} {w : mW} {Q : mW → mO → Prop} (h : RT n_X9_textByte 0 [.ref b, .int x0] [] w (1, 6, false) Q) : CT n_X9_textByte [.ref b, .int x0] w Q := ct_mk ml_X9_textByte mg_X9_textByte rfl (Nat.le_of_ble_eq_true rfl) h
theorem ml_X9_dueResult : m_l n_X9_dueResult = 1 := by decide +kernel
theorem mr_X9_dueResult : m_r n_X9_dueResult = some .long := by decide +kernel
theorem mh_X9_dueResult : m_hh n_X9_dueResult = [] := by decide +kernel
theorem mg_X9_dueResult : (m_gc n_X9_dueResult, m_gs n_X9_dueResult, m_al n_X9_dueResult) = (0, 0, false) := by decide +kernel
theorem ct_X9_dueResult {b : Nat} {w : mW} {Q : mW → mO → Prop} (h : RT n_X9_dueResult 0 [.ref b] [] w (0, 0, false) Q) : CT n_X9_dueResult [.ref b] w Q := ct_mk ml_X9_dueResult mg_X9_dueResult rfl (Nat.le_of_ble_eq_true rfl) h
theorem ml_X9_isRight : m_l n_X9_isRight = 1 := by decide +kernel
theorem mr_X9_isRight : m_r n_X9_isRight = some .boolean := by decide +kernel
theorem mh_X9_isRight : m_hh n_X9_isRight = [] := by decide +kernel
theorem mg_X9_isRight : (m_gc n_X9_isRight, m_gs n_X9_isRight, m_al n_X9_isRight) = (0, 0, false) := by decide +kernel
theorem ct_X9_isRight {b : Nat} {w : mW} {Q : mW → mO → Prop} (h : RT n_X9_isRight 0 [.ref b] [] w (0, 0, false) Q) : CT n_X9_isRight [.ref b] w Q := ct_mk ml_X9_isRight mg_X9_isRight rfl (Nat.le_of_ble_eq_true rfl) h
theorem ml_X9_firstWrong : m_l n_X9_firstWrong = 2 := by decide +kernel
theorem mr_X9_firstWrong : m_r n_X9_firstWrong = some .int := by decide +kernel
theorem mh_X9_firstWrong : m_hh n_X9_firstWrong = [] := by decide +kernel
theorem mg_X9_firstWrong : (m_gc n_X9_firstWrong, m_gs n_X9_firstWrong, m_al n_X9_firstWrong) = (0, 0, false) := by decide +kernel
theorem ct_X9_firstWrong {b : Nat} {w : mW} {Q : mW → mO → Prop} (h : RT n_X9_firstWrong 0 [.ref b, .null] [] w (0, 0, false) Q) : CT n_X9_firstWrong [.ref b] w Q := ct_mk ml_X9_firstWrong mg_X9_firstWrong rfl (Nat.le_of_ble_eq_true rfl) h
theorem ml_X9_wrongDigits : m_l n_X9_wrongDigits = 3 := by decide +kernel
theorem mr_X9_wrongDigits : m_r n_X9_wrongDigits = some .int := by decide +kernel
theorem mh_X9_wrongDigits : m_hh n_X9_wrongDigits = [] := by decide +kernel
theorem mg_X9_wrongDigits : (m_gc n_X9_wrongDigits, m_gs n_X9_wrongDigits, m_al n_X9_wrongDigits) = (0, 0, false) := by decide +kernel
theorem ct_X9_wrongDigits {b : Nat} {w : mW} {Q : mW → mO → Prop} (h : RT n_X9_wrongDigits 0 [.ref b, .null, .null] [] w (0, 0, false) Q) : CT n_X9_wrongDigits [.ref b] w Q := ct_mk ml_X9_wrongDigits mg_X9_wrongDigits rfl (Nat.le_of_ble_eq_true rfl) h
theorem ml_X9_error : m_l n_X9_error = 1 := by decide +kernel
theorem mr_X9_error : m_r n_X9_error = some .long := by decide +kernel
theorem mh_X9_error : m_hh n_X9_error = [] := by decide +kernel
theorem mg_X9_error : (m_gc n_X9_error, m_gs n_X9_error, m_al n_X9_error) = (0, 0, false) := by decide +kernel
theorem ct_X9_error {b : Nat} {w : mW} {Q : mW → mO → Prop} (h : RT n_X9_error 0 [.ref b] [] w (0, 0, false) Q) : CT n_X9_error [.ref b] w Q := ct_mk ml_X9_error mg_X9_error rfl (Nat.le_of_ble_eq_true rfl) h
theorem ml_X9_residue : m_l n_X9_residue = 3 := by decide +kernel
theorem mr_X9_residue : m_r n_X9_residue = some .int := by decide +kernel
theorem mh_X9_residue : m_hh n_X9_residue = [] := by decide +kernel
theorem mg_X9_residue : (m_gc n_X9_residue, m_gs n_X9_residue, m_al n_X9_residue) = (0, 0, false) := by decide +kernel
theorem ct_X9_residue {b : Nat} {w : mW} {Q : mW → mO → Prop} (h : RT n_X9_residue 0 [.ref b, .null, .null] [] w (0, 0, false) Q) : CT n_X9_residue [.ref b] w Q := ct_mk ml_X9_residue mg_X9_residue rfl (Nat.le_of_ble_eq_true rfl) h
theorem ml_X9_resultAfter : m_l n_X9_resultAfter = 2 := by decide +kernel
theorem mr_X9_resultAfter : m_r n_X9_resultAfter = some .long := by decide +kernel
theorem mh_X9_resultAfter : m_hh n_X9_resultAfter = [] := by decide +kernel
theorem mg_X9_resultAfter : (m_gc n_X9_resultAfter, m_gs n_X9_resultAfter, m_al n_X9_resultAfter) = (2, 12, false) := by decide +kernel
theorem ct_X9_resultAfter {b : Nat} {x0 : Int32} {w : mW} {Q : mW → mO → Prop} (h : RT n_X9_resultAfter 0 [.ref b, .int x0] [] w (2, 12, false) Q) : CT n_X9_resultAfter [.ref b, .int x0] w Q := ct_mk ml_X9_resultAfter mg_X9_resultAfter rfl (Nat.le_of_ble_eq_true rfl) h
theorem ml_X9_movedBy : m_l n_X9_movedBy = 2 := by decide +kernel
theorem mr_X9_movedBy : m_r n_X9_movedBy = some .int := by decide +kernel
theorem mh_X9_movedBy : m_hh n_X9_movedBy = [] := by decide +kernel
theorem mg_X9_movedBy : (m_gc n_X9_movedBy, m_gs n_X9_movedBy, m_al n_X9_movedBy) = (1, 6, false) := by decide +kernel
theorem ct_X9_movedBy {b : Nat} {x0 : Int32} {w : mW} {Q : mW → mO → Prop} (h : RT n_X9_movedBy 0 [.ref b, .int x0] [] w (1, 6, false) Q) : CT n_X9_movedBy [.ref b, .int x0] w Q := ct_mk ml_X9_movedBy mg_X9_movedBy rfl (Nat.le_of_ble_eq_true rfl) h
theorem ml_X9_ripple : m_l n_X9_ripple = 2 := by decide +kernel
theorem mr_X9_ripple : m_r n_X9_ripple = some .int := by decide +kernel
theorem mh_X9_ripple : m_hh n_X9_ripple = [] := by decide +kernel
theorem mg_X9_ripple : (m_gc n_X9_ripple, m_gs n_X9_ripple, m_al n_X9_ripple) = (1, 6, false) := by decide +kernel
theorem ct_X9_ripple {b : Nat} {x0 : Int32} {w : mW} {Q : mW → mO → Prop} (h : RT n_X9_ripple 0 [.ref b, .int x0] [] w (1, 6, false) Q) : CT n_X9_ripple [.ref b, .int x0] w Q := ct_mk ml_X9_ripple mg_X9_ripple rfl (Nat.le_of_ble_eq_true rfl) h
theorem ml_X9_turnsToBell : m_l n_X9_turnsToBell = 4 := by decide +kernel
theorem mr_X9_turnsToBell : m_r n_X9_turnsToBell = some .int := by decide +kernel
theorem mh_X9_turnsToBell : m_hh n_X9_turnsToBell = [] := by decide +kernel
theorem mg_X9_turnsToBell : (m_gc n_X9_turnsToBell, m_gs n_X9_turnsToBell, m_al n_X9_turnsToBell) = (2, 12, false) := by decide +kernel
theorem ct_X9_turnsToBell {b : Nat} {x0 : Int32} {x1 : Int32} {w : mW} {Q : mW → mO → Prop} (h : RT n_X9_turnsToBell 0 [.ref b, .int x0, .int x1, .null] [] w (2, 12, false) Q) : CT n_X9_turnsToBell [.ref b, .int x0, .int x1] w Q := ct_mk ml_X9_turnsToBell mg_X9_turnsToBell rfl (Nat.le_of_ble_eq_true rfl) h
theorem ml_X9_turnsFor : m_l n_X9_turnsFor = 3 := by decide +kernel
theorem mr_X9_turnsFor : m_r n_X9_turnsFor = some .int := by decide +kernel
theorem mh_X9_turnsFor : m_hh n_X9_turnsFor = [] := by decide +kernel
theorem mg_X9_turnsFor : (m_gc n_X9_turnsFor, m_gs n_X9_turnsFor, m_al n_X9_turnsFor) = (1, 6, false) := by decide +kernel
theorem ct_X9_turnsFor {b : Nat} {x0 : Int32} {x1 : Int32} {w : mW} {Q : mW → mO → Prop} (h : RT n_X9_turnsFor 0 [.ref b, .int x0, .int x1] [] w (1, 6, false) Q) : CT n_X9_turnsFor [.ref b, .int x0, .int x1] w Q := ct_mk ml_X9_turnsFor mg_X9_turnsFor rfl (Nat.le_of_ble_eq_true rfl) h
theorem ml_X9_soundness : m_l n_X9_soundness = 3 := by decide +kernel
theorem mr_X9_soundness : m_r n_X9_soundness = some .float := by decide +kernel
theorem mh_X9_soundness : m_hh n_X9_soundness = [] := by decide +kernel
theorem mg_X9_soundness : (m_gc n_X9_soundness, m_gs n_X9_soundness, m_al n_X9_soundness) = (0, 0, false) := by decide +kernel
theorem ct_X9_soundness {b : Nat} {w : mW} {Q : mW → mO → Prop} (h : RT n_X9_soundness 0 [.ref b, .null, .null] [] w (0, 0, false) Q) : CT n_X9_soundness [.ref b] w Q := ct_mk ml_X9_soundness mg_X9_soundness rfl (Nat.le_of_ble_eq_true rfl) h
theorem ml_X9_save : m_l n_X9_save = 2 := by decide +kernel
theorem mr_X9_save : m_r n_X9_save = some .int := by decide +kernel
theorem mh_X9_save : m_hh n_X9_save = [] := by decide +kernel
theorem mg_X9_save : (m_gc n_X9_save, m_gs n_X9_save, m_al n_X9_save) = (1, 6, false) := by decide +kernel
theorem ct_X9_save {b : Nat} {x0 : Int32} {w : mW} {Q : mW → mO → Prop} (h : RT n_X9_save 0 [.ref b, .int x0] [] w (1, 6, false) Q) : CT n_X9_save [.ref b, .int x0] w Q := ct_mk ml_X9_save mg_X9_save rfl (Nat.le_of_ble_eq_true rfl) h
theorem ml_X9_restore : m_l n_X9_restore = 2 := by decide +kernel
theorem mr_X9_restore : m_r n_X9_restore = some .int := by decide +kernel
theorem mh_X9_restore : m_hh n_X9_restore = [] := by decide +kernel
theorem mg_X9_restore : (m_gc n_X9_restore, m_gs n_X9_restore, m_al n_X9_restore) = (2, 12, false) := by decide +kernel
theorem ct_X9_restore {b : Nat} {x0 : Int32} {w : mW} {Q : mW → mO → Prop} (h : RT n_X9_restore 0 [.ref b, .int x0] [] w (2, 12, false) Q) : CT n_X9_restore [.ref b, .int x0] w Q := ct_mk ml_X9_restore mg_X9_restore rfl (Nat.le_of_ble_eq_true rfl) h
theorem ml_X9_undo : m_l n_X9_undo = 1 := by decide +kernel
theorem mr_X9_undo : m_r n_X9_undo = some .int := by decide +kernel
theorem mh_X9_undo : m_hh n_X9_undo = [] := by decide +kernel
theorem mg_X9_undo : (m_gc n_X9_undo, m_gs n_X9_undo, m_al n_X9_undo) = (1, 6, false) := by decide +kernel
theorem ct_X9_undo {b : Nat} {w : mW} {Q : mW → mO → Prop} (h : RT n_X9_undo 0 [.ref b] [] w (1, 6, false) Q) : CT n_X9_undo [.ref b] w Q := ct_mk ml_X9_undo mg_X9_undo rfl (Nat.le_of_ble_eq_true rfl) h
theorem ml_X9_changeCount : m_l n_X9_changeCount = 1 := by decide +kernel
theorem mr_X9_changeCount : m_r n_X9_changeCount = some .int := by decide +kernel
theorem mh_X9_changeCount : m_hh n_X9_changeCount = [] := by decide +kernel
theorem mg_X9_changeCount : (m_gc n_X9_changeCount, m_gs n_X9_changeCount, m_al n_X9_changeCount) = (0, 0, false) := by decide +kernel
theorem ct_X9_changeCount {b : Nat} {w : mW} {Q : mW → mO → Prop} (h : RT n_X9_changeCount 0 [.ref b] [] w (0, 0, false) Q) : CT n_X9_changeCount [.ref b] w Q := ct_mk ml_X9_changeCount mg_X9_changeCount rfl (Nat.le_of_ble_eq_true rfl) h
theorem ml_X9_requireNoJam : m_l n_X9_requireNoJam = 1 := by decide +kernel
theorem mr_X9_requireNoJam : m_r n_X9_requireNoJam = none := by decide +kernel
theorem mh_X9_requireNoJam : m_hh n_X9_requireNoJam = [] := by decide +kernel
theorem mg_X9_requireNoJam : (m_gc n_X9_requireNoJam, m_gs n_X9_requireNoJam, m_al n_X9_requireNoJam) = (1, 6, false) := by decide +kernel
theorem ct_X9_requireNoJam {b : Nat} {w : mW} {Q : mW → mO → Prop} (h : RT n_X9_requireNoJam 0 [.ref b] [] w (1, 6, false) Q) : CT n_X9_requireNoJam [.ref b] w Q := ct_mk ml_X9_requireNoJam mg_X9_requireNoJam rfl (Nat.le_of_ble_eq_true rfl) h
theorem ml_X9_requireJam : m_l n_X9_requireJam = 1 := by decide +kernel
theorem mr_X9_requireJam : m_r n_X9_requireJam = none := by decide +kernel
theorem mh_X9_requireJam : m_hh n_X9_requireJam = [] := by decide +kernel
theorem mg_X9_requireJam : (m_gc n_X9_requireJam, m_gs n_X9_requireJam, m_al n_X9_requireJam) = (1, 6, false) := by decide +kernel
theorem ct_X9_requireJam {b : Nat} {w : mW} {Q : mW → mO → Prop} (h : RT n_X9_requireJam 0 [.ref b] [] w (1, 6, false) Q) : CT n_X9_requireJam [.ref b] w Q := ct_mk ml_X9_requireJam mg_X9_requireJam rfl (Nat.le_of_ble_eq_true rfl) h
theorem ml_X9_requireWheel : m_l n_X9_requireWheel = 2 := by decide +kernel
theorem mr_X9_requireWheel : m_r n_X9_requireWheel = none := by decide +kernel
theorem mh_X9_requireWheel : m_hh n_X9_requireWheel = [] := by decide +kernel
theorem mg_X9_requireWheel : (m_gc n_X9_requireWheel, m_gs n_X9_requireWheel, m_al n_X9_requireWheel) = (1, 6, false) := by decide +kernel
theorem ct_X9_requireWheel {b : Nat} {x0 : Int32} {w : mW} {Q : mW → mO → Prop} (h : RT n_X9_requireWheel 0 [.ref b, .int x0] [] w (1, 6, false) Q) : CT n_X9_requireWheel [.ref b, .int x0] w Q := ct_mk ml_X9_requireWheel mg_X9_requireWheel rfl (Nat.le_of_ble_eq_true rfl) h
theorem ml_X9_requirePin : m_l n_X9_requirePin = 2 := by decide +kernel
theorem mr_X9_requirePin : m_r n_X9_requirePin = none := by decide +kernel
theorem mh_X9_requirePin : m_hh n_X9_requirePin = [] := by decide +kernel
theorem mg_X9_requirePin : (m_gc n_X9_requirePin, m_gs n_X9_requirePin, m_al n_X9_requirePin) = (1, 6, false) := by decide +kernel
theorem ct_X9_requirePin {b : Nat} {x0 : Int32} {w : mW} {Q : mW → mO → Prop} (h : RT n_X9_requirePin 0 [.ref b, .int x0] [] w (1, 6, false) Q) : CT n_X9_requirePin [.ref b, .int x0] w Q := ct_mk ml_X9_requirePin mg_X9_requirePin rfl (Nat.le_of_ble_eq_true rfl) h
theorem ml_X9_requireTurns : m_l n_X9_requireTurns = 1 := by decide +kernel
theorem mr_X9_requireTurns : m_r n_X9_requireTurns = none := by decide +kernel
theorem mh_X9_requireTurns : m_hh n_X9_requireTurns = [] := by decide +kernel
theorem mg_X9_requireTurns : (m_gc n_X9_requireTurns, m_gs n_X9_requireTurns, m_al n_X9_requireTurns) = (1, 6, false) := by decide +kernel
theorem ct_X9_requireTurns {x0 : Int32} {w : mW} {Q : mW → mO → Prop} (h : RT n_X9_requireTurns 0 [.int x0] [] w (1, 6, false) Q) : CT n_X9_requireTurns [.int x0] w Q := ct_mk ml_X9_requireTurns mg_X9_requireTurns rfl (Nat.le_of_ble_eq_true rfl) h
theorem ml_X9_requireFactor : m_l n_X9_requireFactor = 1 := by decide +kernel
theorem mr_X9_requireFactor : m_r n_X9_requireFactor = none := by decide +kernel
theorem mh_X9_requireFactor : m_hh n_X9_requireFactor = [] := by decide +kernel
theorem mg_X9_requireFactor : (m_gc n_X9_requireFactor, m_gs n_X9_requireFactor, m_al n_X9_requireFactor) = (1, 6, false) := by decide +kernel
theorem ct_X9_requireFactor {x0 : Int32} {w : mW} {Q : mW → mO → Prop} (h : RT n_X9_requireFactor 0 [.int x0] [] w (1, 6, false) Q) : CT n_X9_requireFactor [.int x0] w Q := ct_mk ml_X9_requireFactor mg_X9_requireFactor rfl (Nat.le_of_ble_eq_true rfl) h
theorem ml_X9_requireSlot : m_l n_X9_requireSlot = 1 := by decide +kernel
theorem mr_X9_requireSlot : m_r n_X9_requireSlot = none := by decide +kernel
theorem mh_X9_requireSlot : m_hh n_X9_requireSlot = [] := by decide +kernel
theorem mg_X9_requireSlot : (m_gc n_X9_requireSlot, m_gs n_X9_requireSlot, m_al n_X9_requireSlot) = (1, 6, false) := by decide +kernel
theorem ct_X9_requireSlot {x0 : Int32} {w : mW} {Q : mW → mO → Prop} (h : RT n_X9_requireSlot 0 [.int x0] [] w (1, 6, false) Q) : CT n_X9_requireSlot [.int x0] w Q := ct_mk ml_X9_requireSlot mg_X9_requireSlot rfl (Nat.le_of_ble_eq_true rfl) h
theorem ml_X9_directionOf : m_l n_X9_directionOf = 1 := by decide +kernel
theorem mr_X9_directionOf : m_r n_X9_directionOf = some .int := by decide +kernel
theorem mh_X9_directionOf : m_hh n_X9_directionOf = [] := by decide +kernel
theorem mg_X9_directionOf : (m_gc n_X9_directionOf, m_gs n_X9_directionOf, m_al n_X9_directionOf) = (0, 0, false) := by decide +kernel
theorem ct_X9_directionOf {x0 : Int32} {w : mW} {Q : mW → mO → Prop} (h : RT n_X9_directionOf 0 [.int x0] [] w (0, 0, false) Q) : CT n_X9_directionOf [.int x0] w Q := ct_mk ml_X9_directionOf mg_X9_directionOf rfl (Nat.le_of_ble_eq_true rfl) h
theorem ml_X9_showByte : m_l n_X9_showByte = 2 := by decide +kernel
theorem mr_X9_showByte : m_r n_X9_showByte = none := by decide +kernel
theorem mh_X9_showByte : m_hh n_X9_showByte = [] := by decide +kernel
theorem mg_X9_showByte : (m_gc n_X9_showByte, m_gs n_X9_showByte, m_al n_X9_showByte) = (0, 0, false) := by decide +kernel
theorem ct_X9_showByte {b : Nat} {x0 : Int32} {w : mW} {Q : mW → mO → Prop} (h : RT n_X9_showByte 0 [.ref b, .int x0] [] w (0, 0, false) Q) : CT n_X9_showByte [.ref b, .int x0] w Q := ct_mk ml_X9_showByte mg_X9_showByte rfl (Nat.le_of_ble_eq_true rfl) h
theorem ml_X10_init : m_l n_X10_init = 1 := by decide +kernel
theorem mr_X10_init : m_r n_X10_init = none := by decide +kernel
theorem mh_X10_init : m_hh n_X10_init = [] := by decide +kernel
theorem mg_X10_init : (m_gc n_X10_init, m_gs n_X10_init, m_al n_X10_init) = (25, 5176, true) := by decide +kernel
theorem ct_X10_init {b : Nat} {w : mW} {Q : mW → mO → Prop} (h : RT n_X10_init 0 [.ref b] [] w (25, 5176, true) Q) : CT n_X10_init [.ref b] w Q := ct_mk ml_X10_init mg_X10_init rfl (Nat.le_of_ble_eq_true rfl) h
theorem ml_X10_thrown : m_l n_X10_thrown = 1 := by decide +kernel
theorem mr_X10_thrown : m_r n_X10_thrown = some .int := by decide +kernel
theorem mh_X10_thrown : m_hh n_X10_thrown = [] := by decide +kernel
theorem mg_X10_thrown : (m_gc n_X10_thrown, m_gs n_X10_thrown, m_al n_X10_thrown) = (0, 0, false) := by decide +kernel
theorem ct_X10_thrown {b : Nat} {w : mW} {Q : mW → mO → Prop} (h : RT n_X10_thrown 0 [.ref b] [] w (0, 0, false) Q) : CT n_X10_thrown [.ref b] w Q := ct_mk ml_X10_thrown mg_X10_thrown rfl (Nat.le_of_ble_eq_true rfl) h
theorem ml_X10_isBetween : m_l n_X10_isBetween = 3 := by decide +kernel
theorem mr_X10_isBetween : m_r n_X10_isBetween = some .boolean := by decide +kernel
theorem mh_X10_isBetween : m_hh n_X10_isBetween = [] := by decide +kernel
theorem mg_X10_isBetween : (m_gc n_X10_isBetween, m_gs n_X10_isBetween, m_al n_X10_isBetween) = (0, 0, false) := by decide +kernel
theorem ct_X10_isBetween {x0 : Int32} {x1 : Int32} {x2 : Int32} {w : mW} {Q : mW → mO → Prop} (h : RT n_X10_isBetween 0 [.int x0, .int x1, .int x2] [] w (0, 0, false) Q) : CT n_X10_isBetween [.int x0, .int x1, .int x2] w Q := ct_mk ml_X10_isBetween mg_X10_isBetween rfl (Nat.le_of_ble_eq_true rfl) h
theorem ml_X10_begins : m_l n_X10_begins = 2 := by decide +kernel
theorem mr_X10_begins : m_r n_X10_begins = none := by decide +kernel
theorem mh_X10_begins : m_hh n_X10_begins = [] := by decide +kernel
theorem mg_X10_begins : (m_gc n_X10_begins, m_gs n_X10_begins, m_al n_X10_begins) = (0, 0, false) := by decide +kernel
theorem ct_X10_begins {b : Nat} {w : mW} {Q : mW → mO → Prop} (h : RT n_X10_begins 0 [.ref b, .null] [] w (0, 0, false) Q) : CT n_X10_begins [.ref b] w Q := ct_mk ml_X10_begins mg_X10_begins rfl (Nat.le_of_ble_eq_true rfl) h
theorem ml_X10_four : m_l n_X10_four = 3 := by decide +kernel
theorem mr_X10_four : m_r n_X10_four = none := by decide +kernel
theorem mh_X10_four : m_hh n_X10_four = [] := by decide +kernel
theorem mg_X10_four : (m_gc n_X10_four, m_gs n_X10_four, m_al n_X10_four) = (0, 0, false) := by decide +kernel
theorem ct_X10_four {b : Nat} {x0 : Int32} {w : mW} {Q : mW → mO → Prop} (h : RT n_X10_four 0 [.ref b, .int x0, .null] [] w (0, 0, false) Q) : CT n_X10_four [.ref b, .int x0] w Q := ct_mk ml_X10_four mg_X10_four rfl (Nat.le_of_ble_eq_true rfl) h
theorem ml_X10_append : m_l n_X10_append = 6 := by decide +kernel
theorem mr_X10_append : m_r n_X10_append = some .int := by decide +kernel
theorem mh_X10_append : m_hh n_X10_append = [] := by decide +kernel
theorem mg_X10_append : (m_gc n_X10_append, m_gs n_X10_append, m_al n_X10_append) = (0, 0, false) := by decide +kernel
theorem ct_X10_append {b : Nat} {x0 : Int32} {x1 : Int32} {x2 : Int32} {x3 : Int32} {x4 : Int32} {w : mW} {Q : mW → mO → Prop} (h : RT n_X10_append 0 [.ref b, .int x0, .int x1, .int x2, .int x3, .int x4] [] w (0, 0, false) Q) : CT n_X10_append [.ref b, .int x0, .int x1, .int x2, .int x3, .int x4] w Q := ct_mk ml_X10_append mg_X10_append rfl (Nat.le_of_ble_eq_true rfl) h
theorem ml_X10_truncate : m_l n_X10_truncate = 2 := by decide +kernel
theorem mr_X10_truncate : m_r n_X10_truncate = some .int := by decide +kernel
theorem mh_X10_truncate : m_hh n_X10_truncate = [] := by decide +kernel
theorem mg_X10_truncate : (m_gc n_X10_truncate, m_gs n_X10_truncate, m_al n_X10_truncate) = (0, 0, false) := by decide +kernel
theorem ct_X10_truncate {b : Nat} {x0 : Int32} {w : mW} {Q : mW → mO → Prop} (h : RT n_X10_truncate 0 [.ref b, .int x0] [] w (0, 0, false) Q) : CT n_X10_truncate [.ref b, .int x0] w Q := ct_mk ml_X10_truncate mg_X10_truncate rfl (Nat.le_of_ble_eq_true rfl) h
theorem ml_X10_isJammed : m_l n_X10_isJammed = 1 := by decide +kernel
theorem mr_X10_isJammed : m_r n_X10_isJammed = some .boolean := by decide +kernel
theorem mh_X10_isJammed : m_hh n_X10_isJammed = [] := by decide +kernel
theorem mg_X10_isJammed : (m_gc n_X10_isJammed, m_gs n_X10_isJammed, m_al n_X10_isJammed) = (0, 0, false) := by decide +kernel
theorem ct_X10_isJammed {b : Nat} {w : mW} {Q : mW → mO → Prop} (h : RT n_X10_isJammed 0 [.ref b] [] w (0, 0, false) Q) : CT n_X10_isJammed [.ref b] w Q := ct_mk ml_X10_isJammed mg_X10_isJammed rfl (Nat.le_of_ble_eq_true rfl) h
theorem ml_X10_top : m_l n_X10_top = 1 := by decide +kernel
theorem mr_X10_top : m_r n_X10_top = some .int := by decide +kernel
theorem mh_X10_top : m_hh n_X10_top = [] := by decide +kernel
theorem mg_X10_top : (m_gc n_X10_top, m_gs n_X10_top, m_al n_X10_top) = (0, 0, false) := by decide +kernel
theorem ct_X10_top {b : Nat} {w : mW} {Q : mW → mO → Prop} (h : RT n_X10_top 0 [.ref b] [] w (0, 0, false) Q) : CT n_X10_top [.ref b] w Q := ct_mk ml_X10_top mg_X10_top rfl (Nat.le_of_ble_eq_true rfl) h
theorem ml_X10_isStuck : m_l n_X10_isStuck = 2 := by decide +kernel
theorem mr_X10_isStuck : m_r n_X10_isStuck = some .boolean := by decide +kernel
theorem mh_X10_isStuck : m_hh n_X10_isStuck = [] := by decide +kernel
theorem mg_X10_isStuck : (m_gc n_X10_isStuck, m_gs n_X10_isStuck, m_al n_X10_isStuck) = (0, 0, false) := by decide +kernel
theorem ct_X10_isStuck {b : Nat} {x0 : Int32} {w : mW} {Q : mW → mO → Prop} (h : RT n_X10_isStuck 0 [.ref b, .int x0] [] w (0, 0, false) Q) : CT n_X10_isStuck [.ref b, .int x0] w Q := ct_mk ml_X10_isStuck mg_X10_isStuck rfl (Nat.le_of_ble_eq_true rfl) h
theorem ml_X10_slips : m_l n_X10_slips = 2 := by decide +kernel
theorem mr_X10_slips : m_r n_X10_slips = some .boolean := by decide +kernel
theorem mh_X10_slips : m_hh n_X10_slips = [] := by decide +kernel
theorem mg_X10_slips : (m_gc n_X10_slips, m_gs n_X10_slips, m_al n_X10_slips) = (0, 0, false) := by decide +kernel
theorem ct_X10_slips {b : Nat} {x0 : Int32} {w : mW} {Q : mW → mO → Prop} (h : RT n_X10_slips 0 [.ref b, .int x0] [] w (0, 0, false) Q) : CT n_X10_slips [.ref b, .int x0] w Q := ct_mk ml_X10_slips mg_X10_slips rfl (Nat.le_of_ble_eq_true rfl) h
theorem ml_X10_moves : m_l n_X10_moves = 6 := by decide +kernel
theorem mr_X10_moves : m_r n_X10_moves = none := by decide +kernel
theorem mh_X10_moves : m_hh n_X10_moves = [] := by decide +kernel
theorem mg_X10_moves : (m_gc n_X10_moves, m_gs n_X10_moves, m_al n_X10_moves) = (0, 0, false) := by decide +kernel
theorem ct_X10_moves {b : Nat} {x0 : Int32} {x1 : Int32} {w : mW} {Q : mW → mO → Prop} (h : RT n_X10_moves 0 [.ref b, .int x0, .int x1, .null, .null, .null] [] w (0, 0, false) Q) : CT n_X10_moves [.ref b, .int x0, .int x1] w Q := ct_mk ml_X10_moves mg_X10_moves rfl (Nat.le_of_ble_eq_true rfl) h
theorem ml_X10_tallies : m_l n_X10_tallies = 2 := by decide +kernel
theorem mr_X10_tallies : m_r n_X10_tallies = none := by decide +kernel
theorem mh_X10_tallies : m_hh n_X10_tallies = [] := by decide +kernel
theorem mg_X10_tallies : (m_gc n_X10_tallies, m_gs n_X10_tallies, m_al n_X10_tallies) = (0, 0, false) := by decide +kernel
theorem ct_X10_tallies {b : Nat} {x0 : Int32} {w : mW} {Q : mW → mO → Prop} (h : RT n_X10_tallies 0 [.ref b, .int x0] [] w (0, 0, false) Q) : CT n_X10_tallies [.ref b, .int x0] w Q := ct_mk ml_X10_tallies mg_X10_tallies rfl (Nat.le_of_ble_eq_true rfl) h
theorem ml_X10_jams : m_l n_X10_jams = 3 := by decide +kernel
theorem mr_X10_jams : m_r n_X10_jams = none := by decide +kernel
theorem mh_X10_jams : m_hh n_X10_jams = [] := by decide +kernel
theorem mg_X10_jams : (m_gc n_X10_jams, m_gs n_X10_jams, m_al n_X10_jams) = (0, 0, false) := by decide +kernel
theorem ct_X10_jams {b : Nat} {x0 : Int32} {x1 : Int32} {w : mW} {Q : mW → mO → Prop} (h : RT n_X10_jams 0 [.ref b, .int x0, .int x1] [] w (0, 0, false) Q) : CT n_X10_jams [.ref b, .int x0, .int x1] w Q := ct_mk ml_X10_jams mg_X10_jams rfl (Nat.le_of_ble_eq_true rfl) h
theorem ml_X10_pinsMove : m_l n_X10_pinsMove = 4 := by decide +kernel
theorem mr_X10_pinsMove : m_r n_X10_pinsMove = some .boolean := by decide +kernel
theorem mh_X10_pinsMove : m_hh n_X10_pinsMove = [] := by decide +kernel
theorem mg_X10_pinsMove : (m_gc n_X10_pinsMove, m_gs n_X10_pinsMove, m_al n_X10_pinsMove) = (0, 0, false) := by decide +kernel
theorem ct_X10_pinsMove {b : Nat} {x0 : Int32} {w : mW} {Q : mW → mO → Prop} (h : RT n_X10_pinsMove 0 [.ref b, .int x0, .null, .null] [] w (0, 0, false) Q) : CT n_X10_pinsMove [.ref b, .int x0] w Q := ct_mk ml_X10_pinsMove mg_X10_pinsMove rfl (Nat.le_of_ble_eq_true rfl) h
theorem ml_X10_isBeyond : m_l n_X10_isBeyond = 2 := by decide +kernel
theorem mr_X10_isBeyond : m_r n_X10_isBeyond = some .boolean := by decide +kernel
theorem mh_X10_isBeyond : m_hh n_X10_isBeyond = [] := by decide +kernel
theorem mg_X10_isBeyond : (m_gc n_X10_isBeyond, m_gs n_X10_isBeyond, m_al n_X10_isBeyond) = (0, 0, false) := by decide +kernel
theorem ct_X10_isBeyond {b : Nat} {x0 : Int32} {w : mW} {Q : mW → mO → Prop} (h : RT n_X10_isBeyond 0 [.ref b, .int x0] [] w (0, 0, false) Q) : CT n_X10_isBeyond [.ref b, .int x0] w Q := ct_mk ml_X10_isBeyond mg_X10_isBeyond rfl (Nat.le_of_ble_eq_true rfl) h
theorem ml_X10_leversMove : m_l n_X10_leversMove = 4 := by decide +kernel
theorem mr_X10_leversMove : m_r n_X10_leversMove = some .boolean := by decide +kernel
theorem mh_X10_leversMove : m_hh n_X10_leversMove = [] := by decide +kernel
theorem mg_X10_leversMove : (m_gc n_X10_leversMove, m_gs n_X10_leversMove, m_al n_X10_leversMove) = (0, 0, false) := by decide +kernel
theorem ct_X10_leversMove {b : Nat} {x0 : Int32} {w : mW} {Q : mW → mO → Prop} (h : RT n_X10_leversMove 0 [.ref b, .int x0, .null, .null] [] w (0, 0, false) Q) : CT n_X10_leversMove [.ref b, .int x0] w Q := ct_mk ml_X10_leversMove mg_X10_leversMove rfl (Nat.le_of_ble_eq_true rfl) h
theorem ml_X10_counts : m_l n_X10_counts = 5 := by decide +kernel
theorem mr_X10_counts : m_r n_X10_counts = none := by decide +kernel
theorem mh_X10_counts : m_hh n_X10_counts = [] := by decide +kernel
theorem mg_X10_counts : (m_gc n_X10_counts, m_gs n_X10_counts, m_al n_X10_counts) = (0, 0, false) := by decide +kernel
theorem ct_X10_counts {b : Nat} {w : mW} {Q : mW → mO → Prop} (h : RT n_X10_counts 0 [.ref b, .null, .null, .null, .null] [] w (0, 0, false) Q) : CT n_X10_counts [.ref b] w Q := ct_mk ml_X10_counts mg_X10_counts rfl (Nat.le_of_ble_eq_true rfl) h
theorem ml_X10_owes : m_l n_X10_owes = 5 := by decide +kernel
theorem mr_X10_owes : m_r n_X10_owes = none := by decide +kernel
theorem mh_X10_owes : m_hh n_X10_owes = [] := by decide +kernel
theorem mg_X10_owes : (m_gc n_X10_owes, m_gs n_X10_owes, m_al n_X10_owes) = (0, 0, false) := by decide +kernel
theorem ct_X10_owes {b : Nat} {w : mW} {Q : mW → mO → Prop} (h : RT n_X10_owes 0 [.ref b, .null, .null, .null, .null] [] w (0, 0, false) Q) : CT n_X10_owes [.ref b] w Q := ct_mk ml_X10_owes mg_X10_owes rfl (Nat.le_of_ble_eq_true rfl) h
theorem ml_X10_logs : m_l n_X10_logs = 2 := by decide +kernel
theorem mr_X10_logs : m_r n_X10_logs = none := by decide +kernel
theorem mh_X10_logs : m_hh n_X10_logs = [] := by decide +kernel
theorem mg_X10_logs : (m_gc n_X10_logs, m_gs n_X10_logs, m_al n_X10_logs) = (0, 0, false) := by decide +kernel
theorem ct_X10_logs {b : Nat} {w : mW} {Q : mW → mO → Prop} (h : RT n_X10_logs 0 [.ref b, .null] [] w (0, 0, false) Q) : CT n_X10_logs [.ref b] w Q := ct_mk ml_X10_logs mg_X10_logs rfl (Nat.le_of_ble_eq_true rfl) h
theorem ml_X10_goesOn : m_l n_X10_goesOn = 3 := by decide +kernel
theorem mr_X10_goesOn : m_r n_X10_goesOn = some .boolean := by decide +kernel
theorem mh_X10_goesOn : m_hh n_X10_goesOn = [] := by decide +kernel
theorem mg_X10_goesOn : (m_gc n_X10_goesOn, m_gs n_X10_goesOn, m_al n_X10_goesOn) = (0, 0, false) := by decide +kernel
theorem ct_X10_goesOn {b : Nat} {x0 : Int32} {x1 : Int32} {w : mW} {Q : mW → mO → Prop} (h : RT n_X10_goesOn 0 [.ref b, .int x0, .int x1] [] w (0, 0, false) Q) : CT n_X10_goesOn [.ref b, .int x0, .int x1] w Q := ct_mk ml_X10_goesOn mg_X10_goesOn rfl (Nat.le_of_ble_eq_true rfl) h
theorem ml_X10_turnsOnce : m_l n_X10_turnsOnce = 3 := by decide +kernel
theorem mr_X10_turnsOnce : m_r n_X10_turnsOnce = some .boolean := by decide +kernel
theorem mh_X10_turnsOnce : m_hh n_X10_turnsOnce = [] := by decide +kernel
theorem mg_X10_turnsOnce : (m_gc n_X10_turnsOnce, m_gs n_X10_turnsOnce, m_al n_X10_turnsOnce) = (0, 0, false) := by decide +kernel
theorem ct_X10_turnsOnce {b : Nat} {x0 : Int32} {w : mW} {Q : mW → mO → Prop} (h : RT n_X10_turnsOnce 0 [.ref b, .int x0, .null] [] w (0, 0, false) Q) : CT n_X10_turnsOnce [.ref b, .int x0] w Q := ct_mk ml_X10_turnsOnce mg_X10_turnsOnce rfl (Nat.le_of_ble_eq_true rfl) h
theorem ml_X10_turns : m_l n_X10_turns = 4 := by decide +kernel
theorem mr_X10_turns : m_r n_X10_turns = some .int := by decide +kernel
theorem mh_X10_turns : m_hh n_X10_turns = [] := by decide +kernel
theorem mg_X10_turns : (m_gc n_X10_turns, m_gs n_X10_turns, m_al n_X10_turns) = (0, 0, false) := by decide +kernel
theorem ct_X10_turns {b : Nat} {x0 : Int32} {w : mW} {Q : mW → mO → Prop} (h : RT n_X10_turns 0 [.ref b, .int x0, .null, .null] [] w (0, 0, false) Q) : CT n_X10_turns [.ref b, .int x0] w Q := ct_mk ml_X10_turns mg_X10_turns rfl (Nat.le_of_ble_eq_true rfl) h
theorem ml_X10_movedNow : m_l n_X10_movedNow = 3 := by decide +kernel
theorem mr_X10_movedNow : m_r n_X10_movedNow = some .int := by decide +kernel
theorem mh_X10_movedNow : m_hh n_X10_movedNow = [] := by decide +kernel
theorem mg_X10_movedNow : (m_gc n_X10_movedNow, m_gs n_X10_movedNow, m_al n_X10_movedNow) = (0, 0, false) := by decide +kernel
theorem ct_X10_movedNow {b : Nat} {w : mW} {Q : mW → mO → Prop} (h : RT n_X10_movedNow 0 [.ref b, .null, .null] [] w (0, 0, false) Q) : CT n_X10_movedNow [.ref b] w Q := ct_mk ml_X10_movedNow mg_X10_movedNow rfl (Nat.le_of_ble_eq_true rfl) h
theorem ml_X10_plans : m_l n_X10_plans = 7 := by decide +kernel
theorem mr_X10_plans : m_r n_X10_plans = none := by decide +kernel
theorem mh_X10_plans : m_hh n_X10_plans = [] := by decide +kernel
theorem mg_X10_plans : (m_gc n_X10_plans, m_gs n_X10_plans, m_al n_X10_plans) = (0, 0, false) := by decide +kernel
theorem ct_X10_plans {b : Nat} {x0 : Int32} {x1 : Int32} {w : mW} {Q : mW → mO → Prop} (h : RT n_X10_plans 0 [.ref b, .int x0, .int x1, .null, .null, .null, .null] [] w (0, 0, false) Q) : CT n_X10_plans [.ref b, .int x0, .int x1] w Q := ct_mk ml_X10_plans mg_X10_plans rfl (Nat.le_of_ble_eq_true rfl) h
theorem ml_X10_plannedTurns : m_l n_X10_plannedTurns = 3 := by decide +kernel
theorem mr_X10_plannedTurns : m_r n_X10_plannedTurns = some .int := by decide +kernel
theorem mh_X10_plannedTurns : m_hh n_X10_plannedTurns = [] := by decide +kernel
theorem mg_X10_plannedTurns : (m_gc n_X10_plannedTurns, m_gs n_X10_plannedTurns, m_al n_X10_plannedTurns) = (0, 0, false) := by decide +kernel
theorem ct_X10_plannedTurns {b : Nat} {w : mW} {Q : mW → mO → Prop} (h : RT n_X10_plannedTurns 0 [.ref b, .null, .null] [] w (0, 0, false) Q) : CT n_X10_plannedTurns [.ref b] w Q := ct_mk ml_X10_plannedTurns mg_X10_plannedTurns rfl (Nat.le_of_ble_eq_true rfl) h
theorem ml_X10_canPlan : m_l n_X10_canPlan = 1 := by decide +kernel
theorem mr_X10_canPlan : m_r n_X10_canPlan = some .boolean := by decide +kernel
theorem mh_X10_canPlan : m_hh n_X10_canPlan = [] := by decide +kernel
theorem mg_X10_canPlan : (m_gc n_X10_canPlan, m_gs n_X10_canPlan, m_al n_X10_canPlan) = (0, 0, false) := by decide +kernel
theorem ct_X10_canPlan {b : Nat} {w : mW} {Q : mW → mO → Prop} (h : RT n_X10_canPlan 0 [.ref b] [] w (0, 0, false) Q) : CT n_X10_canPlan [.ref b] w Q := ct_mk ml_X10_canPlan mg_X10_canPlan rfl (Nat.le_of_ble_eq_true rfl) h
theorem ml_X10_multiplies : m_l n_X10_multiplies = 3 := by decide +kernel
theorem mr_X10_multiplies : m_r n_X10_multiplies = some .int := by decide +kernel
theorem mh_X10_multiplies : m_hh n_X10_multiplies = [] := by decide +kernel
theorem mg_X10_multiplies : (m_gc n_X10_multiplies, m_gs n_X10_multiplies, m_al n_X10_multiplies) = (0, 0, false) := by decide +kernel
theorem ct_X10_multiplies {b : Nat} {w : mW} {Q : mW → mO → Prop} (h : RT n_X10_multiplies 0 [.ref b, .null, .null] [] w (0, 0, false) Q) : CT n_X10_multiplies [.ref b] w Q := ct_mk ml_X10_multiplies mg_X10_multiplies rfl (Nat.le_of_ble_eq_true rfl) h
theorem ml_X10_dividesAt : m_l n_X10_dividesAt = 4 := by decide +kernel
theorem mr_X10_dividesAt : m_r n_X10_dividesAt = some .int := by decide +kernel
theorem mh_X10_dividesAt : m_hh n_X10_dividesAt = [] := by decide +kernel
theorem mg_X10_dividesAt : (m_gc n_X10_dividesAt, m_gs n_X10_dividesAt, m_al n_X10_dividesAt) = (0, 0, false) := by decide +kernel
theorem ct_X10_dividesAt {b : Nat} {w : mW} {Q : mW → mO → Prop} (h : RT n_X10_dividesAt 0 [.ref b, .null, .null, .null] [] w (0, 0, false) Q) : CT n_X10_dividesAt [.ref b] w Q := ct_mk ml_X10_dividesAt mg_X10_dividesAt rfl (Nat.le_of_ble_eq_true rfl) h
theorem ml_X10_divides : m_l n_X10_divides = 3 := by decide +kernel
theorem mr_X10_divides : m_r n_X10_divides = some .int := by decide +kernel
theorem mh_X10_divides : m_hh n_X10_divides = [] := by decide +kernel
theorem mg_X10_divides : (m_gc n_X10_divides, m_gs n_X10_divides, m_al n_X10_divides) = (0, 0, false) := by decide +kernel
theorem ct_X10_divides {b : Nat} {w : mW} {Q : mW → mO → Prop} (h : RT n_X10_divides 0 [.ref b, .null, .null] [] w (0, 0, false) Q) : CT n_X10_divides [.ref b] w Q := ct_mk ml_X10_divides mg_X10_divides rfl (Nat.le_of_ble_eq_true rfl) h
theorem ml_X10_power : m_l n_X10_power = 3 := by decide +kernel
theorem mr_X10_power : m_r n_X10_power = some .int := by decide +kernel
theorem mh_X10_power : m_hh n_X10_power = [] := by decide +kernel
theorem mg_X10_power : (m_gc n_X10_power, m_gs n_X10_power, m_al n_X10_power) = (0, 0, false) := by decide +kernel
theorem ct_X10_power {x0 : Int32} {w : mW} {Q : mW → mO → Prop} (h : RT n_X10_power 0 [.int x0, .null, .null] [] w (0, 0, false) Q) : CT n_X10_power [.int x0] w Q := ct_mk ml_X10_power mg_X10_power rfl (Nat.le_of_ble_eq_true rfl) h
theorem ml_X10_numberOf : m_l n_X10_numberOf = 6 := by decide +kernel
theorem mr_X10_numberOf : m_r n_X10_numberOf = some .long := by decide +kernel
theorem mh_X10_numberOf : m_hh n_X10_numberOf = [] := by decide +kernel
theorem mg_X10_numberOf : (m_gc n_X10_numberOf, m_gs n_X10_numberOf, m_al n_X10_numberOf) = (0, 0, false) := by decide +kernel
theorem ct_X10_numberOf {b : Nat} {x0 : Int32} {x1 : Int32} {w : mW} {Q : mW → mO → Prop} (h : RT n_X10_numberOf 0 [.ref b, .int x0, .int x1, .null, .null, .null] [] w (0, 0, false) Q) : CT n_X10_numberOf [.ref b, .int x0, .int x1] w Q := ct_mk ml_X10_numberOf mg_X10_numberOf rfl (Nat.le_of_ble_eq_true rfl) h
theorem ml_X10_numberOfPins : m_l n_X10_numberOfPins = 1 := by decide +kernel
theorem mr_X10_numberOfPins : m_r n_X10_numberOfPins = some .int := by decide +kernel
theorem mh_X10_numberOfPins : m_hh n_X10_numberOfPins = [] := by decide +kernel
theorem mg_X10_numberOfPins : (m_gc n_X10_numberOfPins, m_gs n_X10_numberOfPins, m_al n_X10_numberOfPins) = (0, 0, false) := by decide +kernel
theorem ct_X10_numberOfPins {b : Nat} {w : mW} {Q : mW → mO → Prop} (h : RT n_X10_numberOfPins 0 [.ref b] [] w (0, 0, false) Q) : CT n_X10_numberOfPins [.ref b] w Q := ct_mk ml_X10_numberOfPins mg_X10_numberOfPins rfl (Nat.le_of_ble_eq_true rfl) h
theorem ml_X10_pinsAre : m_l n_X10_pinsAre = 4 := by decide +kernel
theorem mr_X10_pinsAre : m_r n_X10_pinsAre = none := by decide +kernel
theorem mh_X10_pinsAre : m_hh n_X10_pinsAre = [] := by decide +kernel
theorem mg_X10_pinsAre : (m_gc n_X10_pinsAre, m_gs n_X10_pinsAre, m_al n_X10_pinsAre) = (0, 0, false) := by decide +kernel
theorem ct_X10_pinsAre {b : Nat} {x0 : Int32} {w : mW} {Q : mW → mO → Prop} (h : RT n_X10_pinsAre 0 [.ref b, .int x0, .null, .null] [] w (0, 0, false) Q) : CT n_X10_pinsAre [.ref b, .int x0] w Q := ct_mk ml_X10_pinsAre mg_X10_pinsAre rfl (Nat.le_of_ble_eq_true rfl) h
theorem ml_X10_hasPins : m_l n_X10_hasPins = 1 := by decide +kernel
theorem mr_X10_hasPins : m_r n_X10_hasPins = some .boolean := by decide +kernel
theorem mh_X10_hasPins : m_hh n_X10_hasPins = [] := by decide +kernel
theorem mg_X10_hasPins : (m_gc n_X10_hasPins, m_gs n_X10_hasPins, m_al n_X10_hasPins) = (0, 0, false) := by decide +kernel
theorem ct_X10_hasPins {b : Nat} {w : mW} {Q : mW → mO → Prop} (h : RT n_X10_hasPins 0 [.ref b] [] w (0, 0, false) Q) : CT n_X10_hasPins [.ref b] w Q := ct_mk ml_X10_hasPins mg_X10_hasPins rfl (Nat.le_of_ble_eq_true rfl) h
theorem ml_X10_empties : m_l n_X10_empties = 5 := by decide +kernel
theorem mr_X10_empties : m_r n_X10_empties = some .int := by decide +kernel
theorem mh_X10_empties : m_hh n_X10_empties = [] := by decide +kernel
theorem mg_X10_empties : (m_gc n_X10_empties, m_gs n_X10_empties, m_al n_X10_empties) = (0, 0, false) := by decide +kernel
theorem ct_X10_empties {b : Nat} {x0 : Int32} {x1 : Int32} {w : mW} {Q : mW → mO → Prop} (h : RT n_X10_empties 0 [.ref b, .int x0, .int x1, .null, .null] [] w (0, 0, false) Q) : CT n_X10_empties [.ref b, .int x0, .int x1] w Q := ct_mk ml_X10_empties mg_X10_empties rfl (Nat.le_of_ble_eq_true rfl) h
theorem ml_X10_clears : m_l n_X10_clears = 4 := by decide +kernel
theorem mr_X10_clears : m_r n_X10_clears = some .int := by decide +kernel
theorem mh_X10_clears : m_hh n_X10_clears = [] := by decide +kernel
theorem mg_X10_clears : (m_gc n_X10_clears, m_gs n_X10_clears, m_al n_X10_clears) = (0, 0, false) := by decide +kernel
theorem ct_X10_clears {b : Nat} {x0 : Int32} {w : mW} {Q : mW → mO → Prop} (h : RT n_X10_clears 0 [.ref b, .int x0, .null, .null] [] w (0, 0, false) Q) : CT n_X10_clears [.ref b, .int x0] w Q := ct_mk ml_X10_clears mg_X10_clears rfl (Nat.le_of_ble_eq_true rfl) h
theorem ml_X10_putsAside : m_l n_X10_putsAside = 2 := by decide +kernel
theorem mr_X10_putsAside : m_r n_X10_putsAside = none := by decide +kernel
theorem mh_X10_putsAside : m_hh n_X10_putsAside = [] := by decide +kernel
theorem mg_X10_putsAside : (m_gc n_X10_putsAside, m_gs n_X10_putsAside, m_al n_X10_putsAside) = (0, 0, false) := by decide +kernel
theorem ct_X10_putsAside {b : Nat} {w : mW} {Q : mW → mO → Prop} (h : RT n_X10_putsAside 0 [.ref b, .null] [] w (0, 0, false) Q) : CT n_X10_putsAside [.ref b] w Q := ct_mk ml_X10_putsAside mg_X10_putsAside rfl (Nat.le_of_ble_eq_true rfl) h
theorem ml_X10_goesBack : m_l n_X10_goesBack = 2 := by decide +kernel
theorem mr_X10_goesBack : m_r n_X10_goesBack = none := by decide +kernel
theorem mh_X10_goesBack : m_hh n_X10_goesBack = [] := by decide +kernel
theorem mg_X10_goesBack : (m_gc n_X10_goesBack, m_gs n_X10_goesBack, m_al n_X10_goesBack) = (0, 0, false) := by decide +kernel
theorem ct_X10_goesBack {b : Nat} {w : mW} {Q : mW → mO → Prop} (h : RT n_X10_goesBack 0 [.ref b, .null] [] w (0, 0, false) Q) : CT n_X10_goesBack [.ref b] w Q := ct_mk ml_X10_goesBack mg_X10_goesBack rfl (Nat.le_of_ble_eq_true rfl) h
theorem ml_X10_keeps : m_l n_X10_keeps = 3 := by decide +kernel
theorem mr_X10_keeps : m_r n_X10_keeps = none := by decide +kernel
theorem mh_X10_keeps : m_hh n_X10_keeps = [] := by decide +kernel
theorem mg_X10_keeps : (m_gc n_X10_keeps, m_gs n_X10_keeps, m_al n_X10_keeps) = (0, 0, false) := by decide +kernel
theorem ct_X10_keeps {b : Nat} {x0 : Int32} {w : mW} {Q : mW → mO → Prop} (h : RT n_X10_keeps 0 [.ref b, .int x0, .null] [] w (0, 0, false) Q) : CT n_X10_keeps [.ref b, .int x0] w Q := ct_mk ml_X10_keeps mg_X10_keeps rfl (Nat.le_of_ble_eq_true rfl) h
theorem ml_X10_fetches : m_l n_X10_fetches = 3 := by decide +kernel
theorem mr_X10_fetches : m_r n_X10_fetches = none := by decide +kernel
theorem mh_X10_fetches : m_hh n_X10_fetches = [] := by decide +kernel
theorem mg_X10_fetches : (m_gc n_X10_fetches, m_gs n_X10_fetches, m_al n_X10_fetches) = (0, 0, false) := by decide +kernel
theorem ct_X10_fetches {b : Nat} {x0 : Int32} {w : mW} {Q : mW → mO → Prop} (h : RT n_X10_fetches 0 [.ref b, .int x0, .null] [] w (0, 0, false) Q) : CT n_X10_fetches [.ref b, .int x0] w Q := ct_mk ml_X10_fetches mg_X10_fetches rfl (Nat.le_of_ble_eq_true rfl) h
theorem ml_X10_remembers : m_l n_X10_remembers = 2 := by decide +kernel
theorem mr_X10_remembers : m_r n_X10_remembers = none := by decide +kernel
theorem mh_X10_remembers : m_hh n_X10_remembers = [] := by decide +kernel
theorem mg_X10_remembers : (m_gc n_X10_remembers, m_gs n_X10_remembers, m_al n_X10_remembers) = (0, 0, false) := by decide +kernel
theorem ct_X10_remembers {b : Nat} {w : mW} {Q : mW → mO → Prop} (h : RT n_X10_remembers 0 [.ref b, .null] [] w (0, 0, false) Q) : CT n_X10_remembers [.ref b] w Q := ct_mk ml_X10_remembers mg_X10_remembers rfl (Nat.le_of_ble_eq_true rfl) h
theorem ml_X10_byteAt : m_l n_X10_byteAt = 2 := by decide +kernel
theorem mr_X10_byteAt : m_r n_X10_byteAt = some .int := by decide +kernel
theorem mh_X10_byteAt : m_hh n_X10_byteAt = [] := by decide +kernel
theorem mg_X10_byteAt : (m_gc n_X10_byteAt, m_gs n_X10_byteAt, m_al n_X10_byteAt) = (0, 0, false) := by decide +kernel
theorem ct_X10_byteAt {b : Nat} {x0 : Int32} {w : mW} {Q : mW → mO → Prop} (h : RT n_X10_byteAt 0 [.ref b, .int x0] [] w (0, 0, false) Q) : CT n_X10_byteAt [.ref b, .int x0] w Q := ct_mk ml_X10_byteAt mg_X10_byteAt rfl (Nat.le_of_ble_eq_true rfl) h
theorem ml_X10_isLetter : m_l n_X10_isLetter = 1 := by decide +kernel
theorem mr_X10_isLetter : m_r n_X10_isLetter = some .boolean := by decide +kernel
theorem mh_X10_isLetter : m_hh n_X10_isLetter = [] := by decide +kernel
theorem mg_X10_isLetter : (m_gc n_X10_isLetter, m_gs n_X10_isLetter, m_al n_X10_isLetter) = (0, 0, false) := by decide +kernel
theorem ct_X10_isLetter {x0 : Int32} {w : mW} {Q : mW → mO → Prop} (h : RT n_X10_isLetter 0 [.int x0] [] w (0, 0, false) Q) : CT n_X10_isLetter [.int x0] w Q := ct_mk ml_X10_isLetter mg_X10_isLetter rfl (Nat.le_of_ble_eq_true rfl) h
theorem ml_X10_isDigit : m_l n_X10_isDigit = 1 := by decide +kernel
theorem mr_X10_isDigit : m_r n_X10_isDigit = some .boolean := by decide +kernel
theorem mh_X10_isDigit : m_hh n_X10_isDigit = [] := by decide +kernel
theorem mg_X10_isDigit : (m_gc n_X10_isDigit, m_gs n_X10_isDigit, m_al n_X10_isDigit) = (0, 0, false) := by decide +kernel
theorem ct_X10_isDigit {x0 : Int32} {w : mW} {Q : mW → mO → Prop} (h : RT n_X10_isDigit 0 [.int x0] [] w (0, 0, false) Q) : CT n_X10_isDigit [.int x0] w Q := ct_mk ml_X10_isDigit mg_X10_isDigit rfl (Nat.le_of_ble_eq_true rfl) h
theorem ml_X10_isGood : m_l n_X10_isGood = 1 := by decide +kernel
theorem mr_X10_isGood : m_r n_X10_isGood = some .boolean := by decide +kernel
theorem mh_X10_isGood : m_hh n_X10_isGood = [] := by decide +kernel
theorem mg_X10_isGood : (m_gc n_X10_isGood, m_gs n_X10_isGood, m_al n_X10_isGood) = (0, 0, false) := by decide +kernel
theorem ct_X10_isGood {b : Nat} {w : mW} {Q : mW → mO → Prop} (h : RT n_X10_isGood 0 [.ref b] [] w (0, 0, false) Q) : CT n_X10_isGood [.ref b] w Q := ct_mk ml_X10_isGood mg_X10_isGood rfl (Nat.le_of_ble_eq_true rfl) h
theorem ml_X10_wrong : m_l n_X10_wrong = 2 := by decide +kernel
theorem mr_X10_wrong : m_r n_X10_wrong = none := by decide +kernel
theorem mh_X10_wrong : m_hh n_X10_wrong = [] := by decide +kernel
theorem mg_X10_wrong : (m_gc n_X10_wrong, m_gs n_X10_wrong, m_al n_X10_wrong) = (0, 0, false) := by decide +kernel
theorem ct_X10_wrong {b : Nat} {x0 : Int32} {w : mW} {Q : mW → mO → Prop} (h : RT n_X10_wrong 0 [.ref b, .int x0] [] w (0, 0, false) Q) : CT n_X10_wrong [.ref b, .int x0] w Q := ct_mk ml_X10_wrong mg_X10_wrong rfl (Nat.le_of_ble_eq_true rfl) h
theorem ml_X10_scansWord : m_l n_X10_scansWord = 1 := by decide +kernel
theorem mr_X10_scansWord : m_r n_X10_scansWord = none := by decide +kernel
theorem mh_X10_scansWord : m_hh n_X10_scansWord = [] := by decide +kernel
theorem mg_X10_scansWord : (m_gc n_X10_scansWord, m_gs n_X10_scansWord, m_al n_X10_scansWord) = (0, 0, false) := by decide +kernel
theorem ct_X10_scansWord {b : Nat} {w : mW} {Q : mW → mO → Prop} (h : RT n_X10_scansWord 0 [.ref b] [] w (0, 0, false) Q) : CT n_X10_scansWord [.ref b] w Q := ct_mk ml_X10_scansWord mg_X10_scansWord rfl (Nat.le_of_ble_eq_true rfl) h
theorem ml_X10_scansNumber : m_l n_X10_scansNumber = 1 := by decide +kernel
theorem mr_X10_scansNumber : m_r n_X10_scansNumber = none := by decide +kernel
theorem mh_X10_scansNumber : m_hh n_X10_scansNumber = [] := by decide +kernel
theorem mg_X10_scansNumber : (m_gc n_X10_scansNumber, m_gs n_X10_scansNumber, m_al n_X10_scansNumber) = (0, 0, false) := by decide +kernel
theorem ct_X10_scansNumber {b : Nat} {w : mW} {Q : mW → mO → Prop} (h : RT n_X10_scansNumber 0 [.ref b] [] w (0, 0, false) Q) : CT n_X10_scansNumber [.ref b] w Q := ct_mk ml_X10_scansNumber mg_X10_scansNumber rfl (Nat.le_of_ble_eq_true rfl) h
theorem ml_X10_scans : m_l n_X10_scans = 2 := by decide +kernel
theorem mr_X10_scans : m_r n_X10_scans = none := by decide +kernel
theorem mh_X10_scans : m_hh n_X10_scans = [] := by decide +kernel
theorem mg_X10_scans : (m_gc n_X10_scans, m_gs n_X10_scans, m_al n_X10_scans) = (0, 0, false) := by decide +kernel
theorem ct_X10_scans {b : Nat} {w : mW} {Q : mW → mO → Prop} (h : RT n_X10_scans 0 [.ref b, .null] [] w (0, 0, false) Q) : CT n_X10_scans [.ref b] w Q := ct_mk ml_X10_scans mg_X10_scans rfl (Nat.le_of_ble_eq_true rfl) h
theorem ml_X10_isWord : m_l n_X10_isWord = 3 := by decide +kernel
theorem mr_X10_isWord : m_r n_X10_isWord = some .boolean := by decide +kernel
theorem mh_X10_isWord : m_hh n_X10_isWord = [] := by decide +kernel
theorem mg_X10_isWord : (m_gc n_X10_isWord, m_gs n_X10_isWord, m_al n_X10_isWord) = (0, 0, false) := by decide +kernel
theorem ct_X10_isWord {b : Nat} {r0 : Nat} {w : mW} {Q : mW → mO → Prop} (h : RT n_X10_isWord 0 [.ref b, .ref r0, .null] [] w (0, 0, false) Q) : CT n_X10_isWord [.ref b, .ref r0] w Q := ct_mk ml_X10_isWord mg_X10_isWord rfl (Nat.le_of_ble_eq_true rfl) h
theorem ml_X10_passesWord : m_l n_X10_passesWord = 3 := by decide +kernel
theorem mr_X10_passesWord : m_r n_X10_passesWord = some .boolean := by decide +kernel
theorem mh_X10_passesWord : m_hh n_X10_passesWord = [] := by decide +kernel
theorem mg_X10_passesWord : (m_gc n_X10_passesWord, m_gs n_X10_passesWord, m_al n_X10_passesWord) = (0, 0, false) := by decide +kernel
theorem ct_X10_passesWord {b : Nat} {r0 : Nat} {w : mW} {Q : mW → mO → Prop} (h : RT n_X10_passesWord 0 [.ref b, .ref r0, .null] [] w (0, 0, false) Q) : CT n_X10_passesWord [.ref b, .ref r0] w Q := ct_mk ml_X10_passesWord mg_X10_passesWord rfl (Nat.le_of_ble_eq_true rfl) h
theorem ml_X10_passesSign : m_l n_X10_passesSign = 3 := by decide +kernel
theorem mr_X10_passesSign : m_r n_X10_passesSign = some .boolean := by decide +kernel
theorem mh_X10_passesSign : m_hh n_X10_passesSign = [] := by decide +kernel
theorem mg_X10_passesSign : (m_gc n_X10_passesSign, m_gs n_X10_passesSign, m_al n_X10_passesSign) = (0, 0, false) := by decide +kernel
theorem ct_X10_passesSign {b : Nat} {x0 : Int32} {w : mW} {Q : mW → mO → Prop} (h : RT n_X10_passesSign 0 [.ref b, .int x0, .null] [] w (0, 0, false) Q) : CT n_X10_passesSign [.ref b, .int x0] w Q := ct_mk ml_X10_passesSign mg_X10_passesSign rfl (Nat.le_of_ble_eq_true rfl) h
theorem ml_X10_asksSign : m_l n_X10_asksSign = 2 := by decide +kernel
theorem mr_X10_asksSign : m_r n_X10_asksSign = none := by decide +kernel
theorem mh_X10_asksSign : m_hh n_X10_asksSign = [] := by decide +kernel
theorem mg_X10_asksSign : (m_gc n_X10_asksSign, m_gs n_X10_asksSign, m_al n_X10_asksSign) = (0, 0, false) := by decide +kernel
theorem ct_X10_asksSign {b : Nat} {x0 : Int32} {w : mW} {Q : mW → mO → Prop} (h : RT n_X10_asksSign 0 [.ref b, .int x0] [] w (0, 0, false) Q) : CT n_X10_asksSign [.ref b, .int x0] w Q := ct_mk ml_X10_asksSign mg_X10_asksSign rfl (Nat.le_of_ble_eq_true rfl) h
theorem ml_X10_number : m_l n_X10_number = 4 := by decide +kernel
theorem mr_X10_number : m_r n_X10_number = some .int := by decide +kernel
theorem mh_X10_number : m_hh n_X10_number = [] := by decide +kernel
theorem mg_X10_number : (m_gc n_X10_number, m_gs n_X10_number, m_al n_X10_number) = (0, 0, false) := by decide +kernel
theorem ct_X10_number {b : Nat} {x0 : Int32} {x1 : Int32} {w : mW} {Q : mW → mO → Prop} (h : RT n_X10_number 0 [.ref b, .int x0, .int x1, .null] [] w (0, 0, false) Q) : CT n_X10_number [.ref b, .int x0, .int x1] w Q := ct_mk ml_X10_number mg_X10_number rfl (Nat.le_of_ble_eq_true rfl) h
theorem ml_X10_startsText : m_l n_X10_startsText = 1 := by decide +kernel
theorem mr_X10_startsText : m_r n_X10_startsText = none := by decide +kernel
theorem mh_X10_startsText : m_hh n_X10_startsText = [] := by decide +kernel
theorem mg_X10_startsText : (m_gc n_X10_startsText, m_gs n_X10_startsText, m_al n_X10_startsText) = (0, 0, false) := by decide +kernel
theorem ct_X10_startsText {b : Nat} {w : mW} {Q : mW → mO → Prop} (h : RT n_X10_startsText 0 [.ref b] [] w (0, 0, false) Q) : CT n_X10_startsText [.ref b] w Q := ct_mk ml_X10_startsText mg_X10_startsText rfl (Nat.le_of_ble_eq_true rfl) h
theorem ml_X10_endsText : m_l n_X10_endsText = 1 := by decide +kernel
theorem mr_X10_endsText : m_r n_X10_endsText = none := by decide +kernel
theorem mh_X10_endsText : m_hh n_X10_endsText = [] := by decide +kernel
theorem mg_X10_endsText : (m_gc n_X10_endsText, m_gs n_X10_endsText, m_al n_X10_endsText) = (0, 0, false) := by decide +kernel
theorem ct_X10_endsText {b : Nat} {w : mW} {Q : mW → mO → Prop} (h : RT n_X10_endsText 0 [.ref b] [] w (0, 0, false) Q) : CT n_X10_endsText [.ref b] w Q := ct_mk ml_X10_endsText mg_X10_endsText rfl (Nat.le_of_ble_eq_true rfl) h
theorem ml_X10_partHere : m_l n_X10_partHere = 1 := by decide +kernel
theorem mr_X10_partHere : m_r n_X10_partHere = some .int := by decide +kernel
theorem mh_X10_partHere : m_hh n_X10_partHere = [] := by decide +kernel
theorem mg_X10_partHere : (m_gc n_X10_partHere, m_gs n_X10_partHere, m_al n_X10_partHere) = (0, 0, false) := by decide +kernel
theorem ct_X10_partHere {b : Nat} {w : mW} {Q : mW → mO → Prop} (h : RT n_X10_partHere 0 [.ref b] [] w (0, 0, false) Q) : CT n_X10_partHere [.ref b] w Q := ct_mk ml_X10_partHere mg_X10_partHere rfl (Nat.le_of_ble_eq_true rfl) h
theorem ml_X10_readsFault : m_l n_X10_readsFault = 2 := by decide +kernel
theorem mr_X10_readsFault : m_r n_X10_readsFault = none := by decide +kernel
theorem mh_X10_readsFault : m_hh n_X10_readsFault = [] := by decide +kernel
theorem mg_X10_readsFault : (m_gc n_X10_readsFault, m_gs n_X10_readsFault, m_al n_X10_readsFault) = (0, 0, false) := by decide +kernel
theorem ct_X10_readsFault {b : Nat} {x0 : Int32} {w : mW} {Q : mW → mO → Prop} (h : RT n_X10_readsFault 0 [.ref b, .int x0] [] w (0, 0, false) Q) : CT n_X10_readsFault [.ref b, .int x0] w Q := ct_mk ml_X10_readsFault mg_X10_readsFault rfl (Nat.le_of_ble_eq_true rfl) h
theorem ml_X10_readsSize : m_l n_X10_readsSize = 2 := by decide +kernel
theorem mr_X10_readsSize : m_r n_X10_readsSize = none := by decide +kernel
theorem mh_X10_readsSize : m_hh n_X10_readsSize = [] := by decide +kernel
theorem mg_X10_readsSize : (m_gc n_X10_readsSize, m_gs n_X10_readsSize, m_al n_X10_readsSize) = (0, 0, false) := by decide +kernel
theorem ct_X10_readsSize {b : Nat} {x0 : Int32} {w : mW} {Q : mW → mO → Prop} (h : RT n_X10_readsSize 0 [.ref b, .int x0] [] w (0, 0, false) Q) : CT n_X10_readsSize [.ref b, .int x0] w Q := ct_mk ml_X10_readsSize mg_X10_readsSize rfl (Nat.le_of_ble_eq_true rfl) h
theorem ml_X10_readsPart : m_l n_X10_readsPart = 2 := by decide +kernel
theorem mr_X10_readsPart : m_r n_X10_readsPart = none := by decide +kernel
theorem mh_X10_readsPart : m_hh n_X10_readsPart = [] := by decide +kernel
theorem mg_X10_readsPart : (m_gc n_X10_readsPart, m_gs n_X10_readsPart, m_al n_X10_readsPart) = (0, 0, false) := by decide +kernel
theorem ct_X10_readsPart {b : Nat} {w : mW} {Q : mW → mO → Prop} (h : RT n_X10_readsPart 0 [.ref b, .null] [] w (0, 0, false) Q) : CT n_X10_readsPart [.ref b] w Q := ct_mk ml_X10_readsPart mg_X10_readsPart rfl (Nat.le_of_ble_eq_true rfl) h
theorem ml_X10_setup : m_l n_X10_setup = 2 := by decide +kernel
theorem mr_X10_setup : m_r n_X10_setup = some .int := by decide +kernel
theorem mh_X10_setup : m_hh n_X10_setup = [] := by decide +kernel
theorem mg_X10_setup : (m_gc n_X10_setup, m_gs n_X10_setup, m_al n_X10_setup) = (0, 0, false) := by decide +kernel
theorem ct_X10_setup {b : Nat} {w : mW} {Q : mW → mO → Prop} (h : RT n_X10_setup 0 [.ref b, .null] [] w (0, 0, false) Q) : CT n_X10_setup [.ref b] w Q := ct_mk ml_X10_setup mg_X10_setup rfl (Nat.le_of_ble_eq_true rfl) h
theorem ml_X10_commandHere : m_l n_X10_commandHere = 1 := by decide +kernel
theorem mr_X10_commandHere : m_r n_X10_commandHere = some .int := by decide +kernel
theorem mh_X10_commandHere : m_hh n_X10_commandHere = [] := by decide +kernel
theorem mg_X10_commandHere : (m_gc n_X10_commandHere, m_gs n_X10_commandHere, m_al n_X10_commandHere) = (0, 0, false) := by decide +kernel
theorem ct_X10_commandHere {b : Nat} {w : mW} {Q : mW → mO → Prop} (h : RT n_X10_commandHere 0 [.ref b] [] w (0, 0, false) Q) : CT n_X10_commandHere [.ref b] w Q := ct_mk ml_X10_commandHere mg_X10_commandHere rfl (Nat.le_of_ble_eq_true rfl) h
theorem ml_X10_numberFor : m_l n_X10_numberFor = 2 := by decide +kernel
theorem mr_X10_numberFor : m_r n_X10_numberFor = some .int := by decide +kernel
theorem mh_X10_numberFor : m_hh n_X10_numberFor = [] := by decide +kernel
theorem mg_X10_numberFor : (m_gc n_X10_numberFor, m_gs n_X10_numberFor, m_al n_X10_numberFor) = (0, 0, false) := by decide +kernel
theorem ct_X10_numberFor {b : Nat} {x0 : Int32} {w : mW} {Q : mW → mO → Prop} (h : RT n_X10_numberFor 0 [.ref b, .int x0] [] w (0, 0, false) Q) : CT n_X10_numberFor [.ref b, .int x0] w Q := ct_mk ml_X10_numberFor mg_X10_numberFor rfl (Nat.le_of_ble_eq_true rfl) h
theorem ml_X10_readsCommand : m_l n_X10_readsCommand = 2 := by decide +kernel
theorem mr_X10_readsCommand : m_r n_X10_readsCommand = none := by decide +kernel
theorem mh_X10_readsCommand : m_hh n_X10_readsCommand = [] := by decide +kernel
theorem mg_X10_readsCommand : (m_gc n_X10_readsCommand, m_gs n_X10_readsCommand, m_al n_X10_readsCommand) = (0, 0, false) := by decide +kernel
theorem ct_X10_readsCommand {b : Nat} {w : mW} {Q : mW → mO → Prop} (h : RT n_X10_readsCommand 0 [.ref b, .null] [] w (0, 0, false) Q) : CT n_X10_readsCommand [.ref b] w Q := ct_mk ml_X10_readsCommand mg_X10_readsCommand rfl (Nat.le_of_ble_eq_true rfl) h
theorem ml_X10_does : m_l n_X10_does = 6 := by decide +kernel
theorem mr_X10_does : m_r n_X10_does = some .boolean := by decide +kernel
theorem mh_X10_does : m_hh n_X10_does = [] := by decide +kernel
theorem mg_X10_does : (m_gc n_X10_does, m_gs n_X10_does, m_al n_X10_does) = (0, 0, false) := by decide +kernel
theorem ct_X10_does {b : Nat} {x0 : Int32} {w : mW} {Q : mW → mO → Prop} (h : RT n_X10_does 0 [.ref b, .int x0, .null, .null, .null, .null] [] w (0, 0, false) Q) : CT n_X10_does [.ref b, .int x0] w Q := ct_mk ml_X10_does mg_X10_does rfl (Nat.le_of_ble_eq_true rfl) h
theorem ml_X10_script : m_l n_X10_script = 2 := by decide +kernel
theorem mr_X10_script : m_r n_X10_script = some .int := by decide +kernel
theorem mh_X10_script : m_hh n_X10_script = [] := by decide +kernel
theorem mg_X10_script : (m_gc n_X10_script, m_gs n_X10_script, m_al n_X10_script) = (0, 0, false) := by decide +kernel
theorem ct_X10_script {b : Nat} {w : mW} {Q : mW → mO → Prop} (h : RT n_X10_script 0 [.ref b, .null] [] w (0, 0, false) Q) : CT n_X10_script [.ref b] w Q := ct_mk ml_X10_script mg_X10_script rfl (Nat.le_of_ble_eq_true rfl) h
theorem ml_X10_errorCode : m_l n_X10_errorCode = 1 := by decide +kernel
theorem mr_X10_errorCode : m_r n_X10_errorCode = some .int := by decide +kernel
theorem mh_X10_errorCode : m_hh n_X10_errorCode = [] := by decide +kernel
theorem mg_X10_errorCode : (m_gc n_X10_errorCode, m_gs n_X10_errorCode, m_al n_X10_errorCode) = (0, 0, false) := by decide +kernel
theorem ct_X10_errorCode {b : Nat} {w : mW} {Q : mW → mO → Prop} (h : RT n_X10_errorCode 0 [.ref b] [] w (0, 0, false) Q) : CT n_X10_errorCode [.ref b] w Q := ct_mk ml_X10_errorCode mg_X10_errorCode rfl (Nat.le_of_ble_eq_true rfl) h
theorem ml_X10_errorPosition : m_l n_X10_errorPosition = 1 := by decide +kernel
theorem mr_X10_errorPosition : m_r n_X10_errorPosition = some .int := by decide +kernel
theorem mh_X10_errorPosition : m_hh n_X10_errorPosition = [] := by decide +kernel
theorem mg_X10_errorPosition : (m_gc n_X10_errorPosition, m_gs n_X10_errorPosition, m_al n_X10_errorPosition) = (0, 0, false) := by decide +kernel
theorem ct_X10_errorPosition {b : Nat} {w : mW} {Q : mW → mO → Prop} (h : RT n_X10_errorPosition 0 [.ref b] [] w (0, 0, false) Q) : CT n_X10_errorPosition [.ref b] w Q := ct_mk ml_X10_errorPosition mg_X10_errorPosition rfl (Nat.le_of_ble_eq_true rfl) h
theorem ml_X10_areTurns : m_l n_X10_areTurns = 1 := by decide +kernel
theorem mr_X10_areTurns : m_r n_X10_areTurns = some .boolean := by decide +kernel
theorem mh_X10_areTurns : m_hh n_X10_areTurns = [] := by decide +kernel
theorem mg_X10_areTurns : (m_gc n_X10_areTurns, m_gs n_X10_areTurns, m_al n_X10_areTurns) = (0, 0, false) := by decide +kernel
theorem ct_X10_areTurns {x0 : Int32} {w : mW} {Q : mW → mO → Prop} (h : RT n_X10_areTurns 0 [.int x0] [] w (0, 0, false) Q) : CT n_X10_areTurns [.int x0] w Q := ct_mk ml_X10_areTurns mg_X10_areTurns rfl (Nat.le_of_ble_eq_true rfl) h
theorem ml_X10_setPin : m_l n_X10_setPin = 4 := by decide +kernel
theorem mr_X10_setPin : m_r n_X10_setPin = some .int := by decide +kernel
theorem mh_X10_setPin : m_hh n_X10_setPin = [] := by decide +kernel
theorem mg_X10_setPin : (m_gc n_X10_setPin, m_gs n_X10_setPin, m_al n_X10_setPin) = (0, 0, false) := by decide +kernel
theorem ct_X10_setPin {b : Nat} {x0 : Int32} {x1 : Int32} {w : mW} {Q : mW → mO → Prop} (h : RT n_X10_setPin 0 [.ref b, .int x0, .int x1, .null] [] w (0, 0, false) Q) : CT n_X10_setPin [.ref b, .int x0, .int x1] w Q := ct_mk ml_X10_setPin mg_X10_setPin rfl (Nat.le_of_ble_eq_true rfl) h
theorem ml_X10_setPins : m_l n_X10_setPins = 3 := by decide +kernel
theorem mr_X10_setPins : m_r n_X10_setPins = some .int := by decide +kernel
theorem mh_X10_setPins : m_hh n_X10_setPins = [] := by decide +kernel
theorem mg_X10_setPins : (m_gc n_X10_setPins, m_gs n_X10_setPins, m_al n_X10_setPins) = (0, 0, false) := by decide +kernel
theorem ct_X10_setPins {b : Nat} {x0 : Int32} {w : mW} {Q : mW → mO → Prop} (h : RT n_X10_setPins 0 [.ref b, .int x0, .null] [] w (0, 0, false) Q) : CT n_X10_setPins [.ref b, .int x0] w Q := ct_mk ml_X10_setPins mg_X10_setPins rfl (Nat.le_of_ble_eq_true rfl) h
theorem ml_X10_turn : m_l n_X10_turn = 2 := by decide +kernel
theorem mr_X10_turn : m_r n_X10_turn = some .int := by decide +kernel
theorem mh_X10_turn : m_hh n_X10_turn = [] := by decide +kernel
theorem mg_X10_turn : (m_gc n_X10_turn, m_gs n_X10_turn, m_al n_X10_turn) = (0, 0, false) := by decide +kernel
theorem ct_X10_turn {b : Nat} {x0 : Int32} {w : mW} {Q : mW → mO → Prop} (h : RT n_X10_turn 0 [.ref b, .int x0] [] w (0, 0, false) Q) : CT n_X10_turn [.ref b, .int x0] w Q := ct_mk ml_X10_turn mg_X10_turn rfl (Nat.le_of_ble_eq_true rfl) h
theorem ml_X10_shift : m_l n_X10_shift = 2 := by decide +kernel
theorem mr_X10_shift : m_r n_X10_shift = some .int := by decide +kernel
theorem mh_X10_shift : m_hh n_X10_shift = [] := by decide +kernel
theorem mg_X10_shift : (m_gc n_X10_shift, m_gs n_X10_shift, m_al n_X10_shift) = (0, 0, false) := by decide +kernel
theorem ct_X10_shift {b : Nat} {x0 : Int32} {w : mW} {Q : mW → mO → Prop} (h : RT n_X10_shift 0 [.ref b, .int x0] [] w (0, 0, false) Q) : CT n_X10_shift [.ref b, .int x0] w Q := ct_mk ml_X10_shift mg_X10_shift rfl (Nat.le_of_ble_eq_true rfl) h
theorem ml_X10_clear : m_l n_X10_clear = 2 := by decide +kernel
theorem mr_X10_clear : m_r n_X10_clear = some .int := by decide +kernel
theorem mh_X10_clear : m_hh n_X10_clear = [] := by decide +kernel
theorem mg_X10_clear : (m_gc n_X10_clear, m_gs n_X10_clear, m_al n_X10_clear) = (0, 0, false) := by decide +kernel
theorem ct_X10_clear {b : Nat} {x0 : Int32} {w : mW} {Q : mW → mO → Prop} (h : RT n_X10_clear 0 [.ref b, .int x0] [] w (0, 0, false) Q) : CT n_X10_clear [.ref b, .int x0] w Q := ct_mk ml_X10_clear mg_X10_clear rfl (Nat.le_of_ble_eq_true rfl) h
theorem ml_X10_isFactor : m_l n_X10_isFactor = 1 := by decide +kernel
theorem mr_X10_isFactor : m_r n_X10_isFactor = some .boolean := by decide +kernel
theorem mh_X10_isFactor : m_hh n_X10_isFactor = [] := by decide +kernel
theorem mg_X10_isFactor : (m_gc n_X10_isFactor, m_gs n_X10_isFactor, m_al n_X10_isFactor) = (0, 0, false) := by decide +kernel
theorem ct_X10_isFactor {x0 : Int32} {w : mW} {Q : mW → mO → Prop} (h : RT n_X10_isFactor 0 [.int x0] [] w (0, 0, false) Q) : CT n_X10_isFactor [.int x0] w Q := ct_mk ml_X10_isFactor mg_X10_isFactor rfl (Nat.le_of_ble_eq_true rfl) h
theorem ml_X10_multiply : m_l n_X10_multiply = 3 := by decide +kernel
theorem mr_X10_multiply : m_r n_X10_multiply = some .int := by decide +kernel
theorem mh_X10_multiply : m_hh n_X10_multiply = [] := by decide +kernel
theorem mg_X10_multiply : (m_gc n_X10_multiply, m_gs n_X10_multiply, m_al n_X10_multiply) = (0, 0, false) := by decide +kernel
theorem ct_X10_multiply {b : Nat} {x0 : Int32} {x1 : Int32} {w : mW} {Q : mW → mO → Prop} (h : RT n_X10_multiply 0 [.ref b, .int x0, .int x1] [] w (0, 0, false) Q) : CT n_X10_multiply [.ref b, .int x0, .int x1] w Q := ct_mk ml_X10_multiply mg_X10_multiply rfl (Nat.le_of_ble_eq_true rfl) h
theorem ml_X10_divide : m_l n_X10_divide = 1 := by decide +kernel
theorem mr_X10_divide : m_r n_X10_divide = some .int := by decide +kernel
theorem mh_X10_divide : m_hh n_X10_divide = [] := by decide +kernel
theorem mg_X10_divide : (m_gc n_X10_divide, m_gs n_X10_divide, m_al n_X10_divide) = (0, 0, false) := by decide +kernel
theorem ct_X10_divide {b : Nat} {w : mW} {Q : mW → mO → Prop} (h : RT n_X10_divide 0 [.ref b] [] w (0, 0, false) Q) : CT n_X10_divide [.ref b] w Q := ct_mk ml_X10_divide mg_X10_divide rfl (Nat.le_of_ble_eq_true rfl) h
theorem ml_X10_transfer : m_l n_X10_transfer = 2 := by decide +kernel
theorem mr_X10_transfer : m_r n_X10_transfer = some .int := by decide +kernel
theorem mh_X10_transfer : m_hh n_X10_transfer = [] := by decide +kernel
theorem mg_X10_transfer : (m_gc n_X10_transfer, m_gs n_X10_transfer, m_al n_X10_transfer) = (0, 0, false) := by decide +kernel
theorem ct_X10_transfer {b : Nat} {w : mW} {Q : mW → mO → Prop} (h : RT n_X10_transfer 0 [.ref b, .null] [] w (0, 0, false) Q) : CT n_X10_transfer [.ref b] w Q := ct_mk ml_X10_transfer mg_X10_transfer rfl (Nat.le_of_ble_eq_true rfl) h
theorem ml_X10_crankBack : m_l n_X10_crankBack = 5 := by decide +kernel
theorem mr_X10_crankBack : m_r n_X10_crankBack = some .int := by decide +kernel
theorem mh_X10_crankBack : m_hh n_X10_crankBack = [] := by decide +kernel
theorem mg_X10_crankBack : (m_gc n_X10_crankBack, m_gs n_X10_crankBack, m_al n_X10_crankBack) = (0, 0, false) := by decide +kernel
theorem ct_X10_crankBack {b : Nat} {w : mW} {Q : mW → mO → Prop} (h : RT n_X10_crankBack 0 [.ref b, .null, .null, .null, .null] [] w (0, 0, false) Q) : CT n_X10_crankBack [.ref b] w Q := ct_mk ml_X10_crankBack mg_X10_crankBack rfl (Nat.le_of_ble_eq_true rfl) h
theorem ml_X10_jammedWheel : m_l n_X10_jammedWheel = 1 := by decide +kernel
theorem mr_X10_jammedWheel : m_r n_X10_jammedWheel = some .int := by decide +kernel
theorem mh_X10_jammedWheel : m_hh n_X10_jammedWheel = [] := by decide +kernel
theorem mg_X10_jammedWheel : (m_gc n_X10_jammedWheel, m_gs n_X10_jammedWheel, m_al n_X10_jammedWheel) = (0, 0, false) := by decide +kernel
theorem ct_X10_jammedWheel {b : Nat} {w : mW} {Q : mW → mO → Prop} (h : RT n_X10_jammedWheel 0 [.ref b] [] w (0, 0, false) Q) : CT n_X10_jammedWheel [.ref b] w Q := ct_mk ml_X10_jammedWheel mg_X10_jammedWheel rfl (Nat.le_of_ble_eq_true rfl) h
theorem ml_X10_free : m_l n_X10_free = 2 := by decide +kernel
theorem mr_X10_free : m_r n_X10_free = some .int := by decide +kernel
theorem mh_X10_free : m_hh n_X10_free = [] := by decide +kernel
theorem mg_X10_free : (m_gc n_X10_free, m_gs n_X10_free, m_al n_X10_free) = (0, 0, false) := by decide +kernel
theorem ct_X10_free {b : Nat} {w : mW} {Q : mW → mO → Prop} (h : RT n_X10_free 0 [.ref b, .null] [] w (0, 0, false) Q) : CT n_X10_free [.ref b] w Q := ct_mk ml_X10_free mg_X10_free rfl (Nat.le_of_ble_eq_true rfl) h
theorem ml_X10_isWheel : m_l n_X10_isWheel = 2 := by decide +kernel
theorem mr_X10_isWheel : m_r n_X10_isWheel = some .boolean := by decide +kernel
theorem mh_X10_isWheel : m_hh n_X10_isWheel = [] := by decide +kernel
theorem mg_X10_isWheel : (m_gc n_X10_isWheel, m_gs n_X10_isWheel, m_al n_X10_isWheel) = (0, 0, false) := by decide +kernel
theorem ct_X10_isWheel {b : Nat} {x0 : Int32} {w : mW} {Q : mW → mO → Prop} (h : RT n_X10_isWheel 0 [.ref b, .int x0] [] w (0, 0, false) Q) : CT n_X10_isWheel [.ref b, .int x0] w Q := ct_mk ml_X10_isWheel mg_X10_isWheel rfl (Nat.le_of_ble_eq_true rfl) h
theorem ml_X10_faultsIn : m_l n_X10_faultsIn = 1 := by decide +kernel
theorem mr_X10_faultsIn : m_r n_X10_faultsIn = some .int := by decide +kernel
theorem mh_X10_faultsIn : m_hh n_X10_faultsIn = [] := by decide +kernel
theorem mg_X10_faultsIn : (m_gc n_X10_faultsIn, m_gs n_X10_faultsIn, m_al n_X10_faultsIn) = (0, 0, false) := by decide +kernel
theorem ct_X10_faultsIn {x0 : Int32} {w : mW} {Q : mW → mO → Prop} (h : RT n_X10_faultsIn 0 [.int x0] [] w (0, 0, false) Q) : CT n_X10_faultsIn [.int x0] w Q := ct_mk ml_X10_faultsIn mg_X10_faultsIn rfl (Nat.le_of_ble_eq_true rfl) h
theorem ml_X10_faults : m_l n_X10_faults = 3 := by decide +kernel
theorem mr_X10_faults : m_r n_X10_faults = some .int := by decide +kernel
theorem mh_X10_faults : m_hh n_X10_faults = [] := by decide +kernel
theorem mg_X10_faults : (m_gc n_X10_faults, m_gs n_X10_faults, m_al n_X10_faults) = (0, 0, false) := by decide +kernel
theorem ct_X10_faults {b : Nat} {w : mW} {Q : mW → mO → Prop} (h : RT n_X10_faults 0 [.ref b, .null, .null] [] w (0, 0, false) Q) : CT n_X10_faults [.ref b] w Q := ct_mk ml_X10_faults mg_X10_faults rfl (Nat.le_of_ble_eq_true rfl) h
theorem ml_X10_damage : m_l n_X10_damage = 3 := by decide +kernel
theorem mr_X10_damage : m_r n_X10_damage = some .int := by decide +kernel
theorem mh_X10_damage : m_hh n_X10_damage = [] := by decide +kernel
theorem mg_X10_damage : (m_gc n_X10_damage, m_gs n_X10_damage, m_al n_X10_damage) = (0, 0, false) := by decide +kernel
theorem ct_X10_damage {b : Nat} {x0 : Int32} {x1 : Int32} {w : mW} {Q : mW → mO → Prop} (h : RT n_X10_damage 0 [.ref b, .int x0, .int x1] [] w (0, 0, false) Q) : CT n_X10_damage [.ref b, .int x0, .int x1] w Q := ct_mk ml_X10_damage mg_X10_damage rfl (Nat.le_of_ble_eq_true rfl) h
theorem ml_X10_repair : m_l n_X10_repair = 3 := by decide +kernel
theorem mr_X10_repair : m_r n_X10_repair = some .int := by decide +kernel
theorem mh_X10_repair : m_hh n_X10_repair = [] := by decide +kernel
theorem mg_X10_repair : (m_gc n_X10_repair, m_gs n_X10_repair, m_al n_X10_repair) = (0, 0, false) := by decide +kernel
theorem ct_X10_repair {b : Nat} {x0 : Int32} {w : mW} {Q : mW → mO → Prop} (h : RT n_X10_repair 0 [.ref b, .int x0, .null] [] w (0, 0, false) Q) : CT n_X10_repair [.ref b, .int x0] w Q := ct_mk ml_X10_repair mg_X10_repair rfl (Nat.le_of_ble_eq_true rfl) h
theorem ml_X10_state : m_l n_X10_state = 2 := by decide +kernel
theorem mr_X10_state : m_r n_X10_state = some .int := by decide +kernel
theorem mh_X10_state : m_hh n_X10_state = [] := by decide +kernel
theorem mg_X10_state : (m_gc n_X10_state, m_gs n_X10_state, m_al n_X10_state) = (0, 0, false) := by decide +kernel
theorem ct_X10_state {b : Nat} {x0 : Int32} {w : mW} {Q : mW → mO → Prop} (h : RT n_X10_state 0 [.ref b, .int x0] [] w (0, 0, false) Q) : CT n_X10_state [.ref b, .int x0] w Q := ct_mk ml_X10_state mg_X10_state rfl (Nat.le_of_ble_eq_true rfl) h
theorem ml_X10_count : m_l n_X10_count = 2 := by decide +kernel
theorem mr_X10_count : m_r n_X10_count = some .int := by decide +kernel
theorem mh_X10_count : m_hh n_X10_count = [] := by decide +kernel
theorem mg_X10_count : (m_gc n_X10_count, m_gs n_X10_count, m_al n_X10_count) = (0, 0, false) := by decide +kernel
theorem ct_X10_count {b : Nat} {x0 : Int32} {w : mW} {Q : mW → mO → Prop} (h : RT n_X10_count 0 [.ref b, .int x0] [] w (0, 0, false) Q) : CT n_X10_count [.ref b, .int x0] w Q := ct_mk ml_X10_count mg_X10_count rfl (Nat.le_of_ble_eq_true rfl) h
theorem ml_X10_digit : m_l n_X10_digit = 2 := by decide +kernel
theorem mr_X10_digit : m_r n_X10_digit = some .int := by decide +kernel
theorem mh_X10_digit : m_hh n_X10_digit = [] := by decide +kernel
theorem mg_X10_digit : (m_gc n_X10_digit, m_gs n_X10_digit, m_al n_X10_digit) = (0, 0, false) := by decide +kernel
theorem ct_X10_digit {b : Nat} {x0 : Int32} {w : mW} {Q : mW → mO → Prop} (h : RT n_X10_digit 0 [.ref b, .int x0] [] w (0, 0, false) Q) : CT n_X10_digit [.ref b, .int x0] w Q := ct_mk ml_X10_digit mg_X10_digit rfl (Nat.le_of_ble_eq_true rfl) h
theorem ml_X10_counterDigit : m_l n_X10_counterDigit = 2 := by decide +kernel
theorem mr_X10_counterDigit : m_r n_X10_counterDigit = some .int := by decide +kernel
theorem mh_X10_counterDigit : m_hh n_X10_counterDigit = [] := by decide +kernel
theorem mg_X10_counterDigit : (m_gc n_X10_counterDigit, m_gs n_X10_counterDigit, m_al n_X10_counterDigit) = (0, 0, false) := by decide +kernel
theorem ct_X10_counterDigit {b : Nat} {x0 : Int32} {w : mW} {Q : mW → mO → Prop} (h : RT n_X10_counterDigit 0 [.ref b, .int x0] [] w (0, 0, false) Q) : CT n_X10_counterDigit [.ref b, .int x0] w Q := ct_mk ml_X10_counterDigit mg_X10_counterDigit rfl (Nat.le_of_ble_eq_true rfl) h
theorem ml_X10_pin : m_l n_X10_pin = 2 := by decide +kernel
theorem mr_X10_pin : m_r n_X10_pin = some .int := by decide +kernel
theorem mh_X10_pin : m_hh n_X10_pin = [] := by decide +kernel
theorem mg_X10_pin : (m_gc n_X10_pin, m_gs n_X10_pin, m_al n_X10_pin) = (0, 0, false) := by decide +kernel
theorem ct_X10_pin {b : Nat} {x0 : Int32} {w : mW} {Q : mW → mO → Prop} (h : RT n_X10_pin 0 [.ref b, .int x0] [] w (0, 0, false) Q) : CT n_X10_pin [.ref b, .int x0] w Q := ct_mk ml_X10_pin mg_X10_pin rfl (Nat.le_of_ble_eq_true rfl) h
theorem ml_X10_resultNow : m_l n_X10_resultNow = 1 := by decide +kernel
theorem mr_X10_resultNow : m_r n_X10_resultNow = some .long := by decide +kernel
theorem mh_X10_resultNow : m_hh n_X10_resultNow = [] := by decide +kernel
theorem mg_X10_resultNow : (m_gc n_X10_resultNow, m_gs n_X10_resultNow, m_al n_X10_resultNow) = (0, 0, false) := by decide +kernel
theorem ct_X10_resultNow {b : Nat} {w : mW} {Q : mW → mO → Prop} (h : RT n_X10_resultNow 0 [.ref b] [] w (0, 0, false) Q) : CT n_X10_resultNow [.ref b] w Q := ct_mk ml_X10_resultNow mg_X10_resultNow rfl (Nat.le_of_ble_eq_true rfl) h
theorem ml_X10_dueNow : m_l n_X10_dueNow = 1 := by decide +kernel
theorem mr_X10_dueNow : m_r n_X10_dueNow = some .long := by decide +kernel
theorem mh_X10_dueNow : m_hh n_X10_dueNow = [] := by decide +kernel
theorem mg_X10_dueNow : (m_gc n_X10_dueNow, m_gs n_X10_dueNow, m_al n_X10_dueNow) = (0, 0, false) := by decide +kernel
theorem ct_X10_dueNow {b : Nat} {w : mW} {Q : mW → mO → Prop} (h : RT n_X10_dueNow 0 [.ref b] [] w (0, 0, false) Q) : CT n_X10_dueNow [.ref b] w Q := ct_mk ml_X10_dueNow mg_X10_dueNow rfl (Nat.le_of_ble_eq_true rfl) h
theorem ml_X10_result : m_l n_X10_result = 1 := by decide +kernel
theorem mr_X10_result : m_r n_X10_result = some .long := by decide +kernel
theorem mh_X10_result : m_hh n_X10_result = [] := by decide +kernel
theorem mg_X10_result : (m_gc n_X10_result, m_gs n_X10_result, m_al n_X10_result) = (0, 0, false) := by decide +kernel
theorem ct_X10_result {b : Nat} {w : mW} {Q : mW → mO → Prop} (h : RT n_X10_result 0 [.ref b] [] w (0, 0, false) Q) : CT n_X10_result [.ref b] w Q := ct_mk ml_X10_result mg_X10_result rfl (Nat.le_of_ble_eq_true rfl) h
theorem ml_X10_counter : m_l n_X10_counter = 1 := by decide +kernel
theorem mr_X10_counter : m_r n_X10_counter = some .int := by decide +kernel
theorem mh_X10_counter : m_hh n_X10_counter = [] := by decide +kernel
theorem mg_X10_counter : (m_gc n_X10_counter, m_gs n_X10_counter, m_al n_X10_counter) = (0, 0, false) := by decide +kernel
theorem ct_X10_counter {b : Nat} {w : mW} {Q : mW → mO → Prop} (h : RT n_X10_counter 0 [.ref b] [] w (0, 0, false) Q) : CT n_X10_counter [.ref b] w Q := ct_mk ml_X10_counter mg_X10_counter rfl (Nat.le_of_ble_eq_true rfl) h
theorem ml_X10_complement : m_l n_X10_complement = 4 := by decide +kernel
theorem mr_X10_complement : m_r n_X10_complement = some .long := by decide +kernel
theorem mh_X10_complement : m_hh n_X10_complement = [] := by decide +kernel
theorem mg_X10_complement : (m_gc n_X10_complement, m_gs n_X10_complement, m_al n_X10_complement) = (0, 0, false) := by decide +kernel
theorem ct_X10_complement {b : Nat} {w : mW} {Q : mW → mO → Prop} (h : RT n_X10_complement 0 [.ref b, .null, .null, .null] [] w (0, 0, false) Q) : CT n_X10_complement [.ref b] w Q := ct_mk ml_X10_complement mg_X10_complement rfl (Nat.le_of_ble_eq_true rfl) h
theorem ml_X10_fault : m_l n_X10_fault = 2 := by decide +kernel
theorem mr_X10_fault : m_r n_X10_fault = some .int := by decide +kernel
theorem mh_X10_fault : m_hh n_X10_fault = [] := by decide +kernel
theorem mg_X10_fault : (m_gc n_X10_fault, m_gs n_X10_fault, m_al n_X10_fault) = (0, 0, false) := by decide +kernel
theorem ct_X10_fault {b : Nat} {x0 : Int32} {w : mW} {Q : mW → mO → Prop} (h : RT n_X10_fault 0 [.ref b, .int x0] [] w (0, 0, false) Q) : CT n_X10_fault [.ref b, .int x0] w Q := ct_mk ml_X10_fault mg_X10_fault rfl (Nat.le_of_ble_eq_true rfl) h
theorem ml_X10_isLeverSet : m_l n_X10_isLeverSet = 2 := by decide +kernel
theorem mr_X10_isLeverSet : m_r n_X10_isLeverSet = some .boolean := by decide +kernel
theorem mh_X10_isLeverSet : m_hh n_X10_isLeverSet = [] := by decide +kernel
theorem mg_X10_isLeverSet : (m_gc n_X10_isLeverSet, m_gs n_X10_isLeverSet, m_al n_X10_isLeverSet) = (0, 0, false) := by decide +kernel
theorem ct_X10_isLeverSet {b : Nat} {x0 : Int32} {w : mW} {Q : mW → mO → Prop} (h : RT n_X10_isLeverSet 0 [.ref b, .int x0] [] w (0, 0, false) Q) : CT n_X10_isLeverSet [.ref b, .int x0] w Q := ct_mk ml_X10_isLeverSet mg_X10_isLeverSet rfl (Nat.le_of_ble_eq_true rfl) h
theorem ml_X10_jam : m_l n_X10_jam = 2 := by decide +kernel
theorem mr_X10_jam : m_r n_X10_jam = some .int := by decide +kernel
theorem mh_X10_jam : m_hh n_X10_jam = [] := by decide +kernel
theorem mg_X10_jam : (m_gc n_X10_jam, m_gs n_X10_jam, m_al n_X10_jam) = (0, 0, false) := by decide +kernel
theorem ct_X10_jam {b : Nat} {x0 : Int32} {w : mW} {Q : mW → mO → Prop} (h : RT n_X10_jam 0 [.ref b, .int x0] [] w (0, 0, false) Q) : CT n_X10_jam [.ref b, .int x0] w Q := ct_mk ml_X10_jam mg_X10_jam rfl (Nat.le_of_ble_eq_true rfl) h
theorem ml_X10_steps : m_l n_X10_steps = 2 := by decide +kernel
theorem mr_X10_steps : m_r n_X10_steps = some .int := by decide +kernel
theorem mh_X10_steps : m_hh n_X10_steps = [] := by decide +kernel
theorem mg_X10_steps : (m_gc n_X10_steps, m_gs n_X10_steps, m_al n_X10_steps) = (0, 0, false) := by decide +kernel
theorem ct_X10_steps {b : Nat} {x0 : Int32} {w : mW} {Q : mW → mO → Prop} (h : RT n_X10_steps 0 [.ref b, .int x0] [] w (0, 0, false) Q) : CT n_X10_steps [.ref b, .int x0] w Q := ct_mk ml_X10_steps mg_X10_steps rfl (Nat.le_of_ble_eq_true rfl) h
theorem ml_X10_busiest : m_l n_X10_busiest = 3 := by decide +kernel
theorem mr_X10_busiest : m_r n_X10_busiest = some .int := by decide +kernel
theorem mh_X10_busiest : m_hh n_X10_busiest = [] := by decide +kernel
theorem mg_X10_busiest : (m_gc n_X10_busiest, m_gs n_X10_busiest, m_al n_X10_busiest) = (0, 0, false) := by decide +kernel
theorem ct_X10_busiest {b : Nat} {w : mW} {Q : mW → mO → Prop} (h : RT n_X10_busiest 0 [.ref b, .null, .null] [] w (0, 0, false) Q) : CT n_X10_busiest [.ref b] w Q := ct_mk ml_X10_busiest mg_X10_busiest rfl (Nat.le_of_ble_eq_true rfl) h
theorem ml_X10_logged : m_l n_X10_logged = 3 := by decide +kernel
theorem mr_X10_logged : m_r n_X10_logged = some .int := by decide +kernel
theorem mh_X10_logged : m_hh n_X10_logged = [] := by decide +kernel
theorem mg_X10_logged : (m_gc n_X10_logged, m_gs n_X10_logged, m_al n_X10_logged) = (0, 0, false) := by decide +kernel
theorem ct_X10_logged {b : Nat} {x0 : Int32} {x1 : Int32} {w : mW} {Q : mW → mO → Prop} (h : RT n_X10_logged 0 [.ref b, .int x0, .int x1] [] w (0, 0, false) Q) : CT n_X10_logged [.ref b, .int x0, .int x1] w Q := ct_mk ml_X10_logged mg_X10_logged rfl (Nat.le_of_ble_eq_true rfl) h
theorem ml_X10_says : m_l n_X10_says = 2 := by decide +kernel
theorem mr_X10_says : m_r n_X10_says = none := by decide +kernel
theorem mh_X10_says : m_hh n_X10_says = [] := by decide +kernel
theorem mg_X10_says : (m_gc n_X10_says, m_gs n_X10_says, m_al n_X10_says) = (0, 0, false) := by decide +kernel
theorem ct_X10_says {b : Nat} {x0 : Int32} {w : mW} {Q : mW → mO → Prop} (h : RT n_X10_says 0 [.ref b, .int x0] [] w (0, 0, false) Q) : CT n_X10_says [.ref b, .int x0] w Q := ct_mk ml_X10_says mg_X10_says rfl (Nat.le_of_ble_eq_true rfl) h
theorem ml_X10_saysDigits : m_l n_X10_saysDigits = 5 := by decide +kernel
theorem mr_X10_saysDigits : m_r n_X10_saysDigits = none := by decide +kernel
theorem mh_X10_saysDigits : m_hh n_X10_saysDigits = [] := by decide +kernel
theorem mg_X10_saysDigits : (m_gc n_X10_saysDigits, m_gs n_X10_saysDigits, m_al n_X10_saysDigits) = (0, 0, false) := by decide +kernel
theorem ct_X10_saysDigits {b : Nat} {x0 : Int32} {x1 : Int32} {x2 : Int32} {w : mW} {Q : mW → mO → Prop} (h : RT n_X10_saysDigits 0 [.ref b, .int x0, .int x1, .int x2, .null] [] w (0, 0, false) Q) : CT n_X10_saysDigits [.ref b, .int x0, .int x1, .int x2] w Q := ct_mk ml_X10_saysDigits mg_X10_saysDigits rfl (Nat.le_of_ble_eq_true rfl) h
theorem ml_X10_show : m_l n_X10_show = 1 := by decide +kernel
theorem mr_X10_show : m_r n_X10_show = some .int := by decide +kernel
theorem mh_X10_show : m_hh n_X10_show = [] := by decide +kernel
theorem mg_X10_show : (m_gc n_X10_show, m_gs n_X10_show, m_al n_X10_show) = (0, 0, false) := by decide +kernel
theorem ct_X10_show {b : Nat} {w : mW} {Q : mW → mO → Prop} (h : RT n_X10_show 0 [.ref b] [] w (0, 0, false) Q) : CT n_X10_show [.ref b] w Q := ct_mk ml_X10_show mg_X10_show rfl (Nat.le_of_ble_eq_true rfl) h
theorem ml_X10_textByte : m_l n_X10_textByte = 2 := by decide +kernel
theorem mr_X10_textByte : m_r n_X10_textByte = some .int := by decide +kernel
theorem mh_X10_textByte : m_hh n_X10_textByte = [] := by decide +kernel
theorem mg_X10_textByte : (m_gc n_X10_textByte, m_gs n_X10_textByte, m_al n_X10_textByte) = (0, 0, false) := by decide +kernel
theorem ct_X10_textByte {b : Nat} {x0 : Int32} {w : mW} {Q : mW → mO → Prop} (h : RT n_X10_textByte 0 [.ref b, .int x0] [] w (0, 0, false) Q) : CT n_X10_textByte [.ref b, .int x0] w Q := ct_mk ml_X10_textByte mg_X10_textByte rfl (Nat.le_of_ble_eq_true rfl) h
theorem ml_X10_dueResult : m_l n_X10_dueResult = 1 := by decide +kernel
theorem mr_X10_dueResult : m_r n_X10_dueResult = some .long := by decide +kernel
theorem mh_X10_dueResult : m_hh n_X10_dueResult = [] := by decide +kernel
theorem mg_X10_dueResult : (m_gc n_X10_dueResult, m_gs n_X10_dueResult, m_al n_X10_dueResult) = (0, 0, false) := by decide +kernel
theorem ct_X10_dueResult {b : Nat} {w : mW} {Q : mW → mO → Prop} (h : RT n_X10_dueResult 0 [.ref b] [] w (0, 0, false) Q) : CT n_X10_dueResult [.ref b] w Q := ct_mk ml_X10_dueResult mg_X10_dueResult rfl (Nat.le_of_ble_eq_true rfl) h
theorem ml_X10_isRight : m_l n_X10_isRight = 1 := by decide +kernel
theorem mr_X10_isRight : m_r n_X10_isRight = some .boolean := by decide +kernel
theorem mh_X10_isRight : m_hh n_X10_isRight = [] := by decide +kernel
theorem mg_X10_isRight : (m_gc n_X10_isRight, m_gs n_X10_isRight, m_al n_X10_isRight) = (0, 0, false) := by decide +kernel
theorem ct_X10_isRight {b : Nat} {w : mW} {Q : mW → mO → Prop} (h : RT n_X10_isRight 0 [.ref b] [] w (0, 0, false) Q) : CT n_X10_isRight [.ref b] w Q := ct_mk ml_X10_isRight mg_X10_isRight rfl (Nat.le_of_ble_eq_true rfl) h
theorem ml_X10_firstWrong : m_l n_X10_firstWrong = 2 := by decide +kernel
theorem mr_X10_firstWrong : m_r n_X10_firstWrong = some .int := by decide +kernel
theorem mh_X10_firstWrong : m_hh n_X10_firstWrong = [] := by decide +kernel
theorem mg_X10_firstWrong : (m_gc n_X10_firstWrong, m_gs n_X10_firstWrong, m_al n_X10_firstWrong) = (0, 0, false) := by decide +kernel
theorem ct_X10_firstWrong {b : Nat} {w : mW} {Q : mW → mO → Prop} (h : RT n_X10_firstWrong 0 [.ref b, .null] [] w (0, 0, false) Q) : CT n_X10_firstWrong [.ref b] w Q := ct_mk ml_X10_firstWrong mg_X10_firstWrong rfl (Nat.le_of_ble_eq_true rfl) h
theorem ml_X10_wrongDigits : m_l n_X10_wrongDigits = 3 := by decide +kernel
theorem mr_X10_wrongDigits : m_r n_X10_wrongDigits = some .int := by decide +kernel
theorem mh_X10_wrongDigits : m_hh n_X10_wrongDigits = [] := by decide +kernel
theorem mg_X10_wrongDigits : (m_gc n_X10_wrongDigits, m_gs n_X10_wrongDigits, m_al n_X10_wrongDigits) = (0, 0, false) := by decide +kernel
theorem ct_X10_wrongDigits {b : Nat} {w : mW} {Q : mW → mO → Prop} (h : RT n_X10_wrongDigits 0 [.ref b, .null, .null] [] w (0, 0, false) Q) : CT n_X10_wrongDigits [.ref b] w Q := ct_mk ml_X10_wrongDigits mg_X10_wrongDigits rfl (Nat.le_of_ble_eq_true rfl) h
theorem ml_X10_error : m_l n_X10_error = 1 := by decide +kernel
theorem mr_X10_error : m_r n_X10_error = some .long := by decide +kernel
theorem mh_X10_error : m_hh n_X10_error = [] := by decide +kernel
theorem mg_X10_error : (m_gc n_X10_error, m_gs n_X10_error, m_al n_X10_error) = (0, 0, false) := by decide +kernel
theorem ct_X10_error {b : Nat} {w : mW} {Q : mW → mO → Prop} (h : RT n_X10_error 0 [.ref b] [] w (0, 0, false) Q) : CT n_X10_error [.ref b] w Q := ct_mk ml_X10_error mg_X10_error rfl (Nat.le_of_ble_eq_true rfl) h
theorem ml_X10_residue : m_l n_X10_residue = 3 := by decide +kernel
theorem mr_X10_residue : m_r n_X10_residue = some .int := by decide +kernel
theorem mh_X10_residue : m_hh n_X10_residue = [] := by decide +kernel
theorem mg_X10_residue : (m_gc n_X10_residue, m_gs n_X10_residue, m_al n_X10_residue) = (0, 0, false) := by decide +kernel
theorem ct_X10_residue {b : Nat} {w : mW} {Q : mW → mO → Prop} (h : RT n_X10_residue 0 [.ref b, .null, .null] [] w (0, 0, false) Q) : CT n_X10_residue [.ref b] w Q := ct_mk ml_X10_residue mg_X10_residue rfl (Nat.le_of_ble_eq_true rfl) h
theorem ml_X10_resultAfter : m_l n_X10_resultAfter = 5 := by decide +kernel
theorem mr_X10_resultAfter : m_r n_X10_resultAfter = some .long := by decide +kernel
theorem mh_X10_resultAfter : m_hh n_X10_resultAfter = [] := by decide +kernel
theorem mg_X10_resultAfter : (m_gc n_X10_resultAfter, m_gs n_X10_resultAfter, m_al n_X10_resultAfter) = (0, 0, false) := by decide +kernel
theorem ct_X10_resultAfter {b : Nat} {x0 : Int32} {w : mW} {Q : mW → mO → Prop} (h : RT n_X10_resultAfter 0 [.ref b, .int x0, .null, .null, .null] [] w (0, 0, false) Q) : CT n_X10_resultAfter [.ref b, .int x0] w Q := ct_mk ml_X10_resultAfter mg_X10_resultAfter rfl (Nat.le_of_ble_eq_true rfl) h
theorem ml_X10_movedBy : m_l n_X10_movedBy = 4 := by decide +kernel
theorem mr_X10_movedBy : m_r n_X10_movedBy = some .int := by decide +kernel
theorem mh_X10_movedBy : m_hh n_X10_movedBy = [] := by decide +kernel
theorem mg_X10_movedBy : (m_gc n_X10_movedBy, m_gs n_X10_movedBy, m_al n_X10_movedBy) = (0, 0, false) := by decide +kernel
theorem ct_X10_movedBy {b : Nat} {x0 : Int32} {w : mW} {Q : mW → mO → Prop} (h : RT n_X10_movedBy 0 [.ref b, .int x0, .null, .null] [] w (0, 0, false) Q) : CT n_X10_movedBy [.ref b, .int x0] w Q := ct_mk ml_X10_movedBy mg_X10_movedBy rfl (Nat.le_of_ble_eq_true rfl) h
theorem ml_X10_ripple : m_l n_X10_ripple = 3 := by decide +kernel
theorem mr_X10_ripple : m_r n_X10_ripple = some .int := by decide +kernel
theorem mh_X10_ripple : m_hh n_X10_ripple = [] := by decide +kernel
theorem mg_X10_ripple : (m_gc n_X10_ripple, m_gs n_X10_ripple, m_al n_X10_ripple) = (0, 0, false) := by decide +kernel
theorem ct_X10_ripple {b : Nat} {x0 : Int32} {w : mW} {Q : mW → mO → Prop} (h : RT n_X10_ripple 0 [.ref b, .int x0, .null] [] w (0, 0, false) Q) : CT n_X10_ripple [.ref b, .int x0] w Q := ct_mk ml_X10_ripple mg_X10_ripple rfl (Nat.le_of_ble_eq_true rfl) h
theorem ml_X10_turnsToBell : m_l n_X10_turnsToBell = 6 := by decide +kernel
theorem mr_X10_turnsToBell : m_r n_X10_turnsToBell = some .int := by decide +kernel
theorem mh_X10_turnsToBell : m_hh n_X10_turnsToBell = [] := by decide +kernel
theorem mg_X10_turnsToBell : (m_gc n_X10_turnsToBell, m_gs n_X10_turnsToBell, m_al n_X10_turnsToBell) = (0, 0, false) := by decide +kernel
theorem ct_X10_turnsToBell {b : Nat} {x0 : Int32} {x1 : Int32} {w : mW} {Q : mW → mO → Prop} (h : RT n_X10_turnsToBell 0 [.ref b, .int x0, .int x1, .null, .null, .null] [] w (0, 0, false) Q) : CT n_X10_turnsToBell [.ref b, .int x0, .int x1] w Q := ct_mk ml_X10_turnsToBell mg_X10_turnsToBell rfl (Nat.le_of_ble_eq_true rfl) h
theorem ml_X10_turnsFor : m_l n_X10_turnsFor = 3 := by decide +kernel
theorem mr_X10_turnsFor : m_r n_X10_turnsFor = some .int := by decide +kernel
theorem mh_X10_turnsFor : m_hh n_X10_turnsFor = [] := by decide +kernel
theorem mg_X10_turnsFor : (m_gc n_X10_turnsFor, m_gs n_X10_turnsFor, m_al n_X10_turnsFor) = (0, 0, false) := by decide +kernel
theorem ct_X10_turnsFor {b : Nat} {x0 : Int32} {x1 : Int32} {w : mW} {Q : mW → mO → Prop} (h : RT n_X10_turnsFor 0 [.ref b, .int x0, .int x1] [] w (0, 0, false) Q) : CT n_X10_turnsFor [.ref b, .int x0, .int x1] w Q := ct_mk ml_X10_turnsFor mg_X10_turnsFor rfl (Nat.le_of_ble_eq_true rfl) h
theorem ml_X10_soundness : m_l n_X10_soundness = 2 := by decide +kernel
theorem mr_X10_soundness : m_r n_X10_soundness = some .float := by decide +kernel
theorem mh_X10_soundness : m_hh n_X10_soundness = [] := by decide +kernel
theorem mg_X10_soundness : (m_gc n_X10_soundness, m_gs n_X10_soundness, m_al n_X10_soundness) = (0, 0, false) := by decide +kernel
theorem ct_X10_soundness {b : Nat} {w : mW} {Q : mW → mO → Prop} (h : RT n_X10_soundness 0 [.ref b, .null] [] w (0, 0, false) Q) : CT n_X10_soundness [.ref b] w Q := ct_mk ml_X10_soundness mg_X10_soundness rfl (Nat.le_of_ble_eq_true rfl) h
theorem ml_X10_save : m_l n_X10_save = 2 := by decide +kernel
theorem mr_X10_save : m_r n_X10_save = some .int := by decide +kernel
theorem mh_X10_save : m_hh n_X10_save = [] := by decide +kernel
theorem mg_X10_save : (m_gc n_X10_save, m_gs n_X10_save, m_al n_X10_save) = (0, 0, false) := by decide +kernel
theorem ct_X10_save {b : Nat} {x0 : Int32} {w : mW} {Q : mW → mO → Prop} (h : RT n_X10_save 0 [.ref b, .int x0] [] w (0, 0, false) Q) : CT n_X10_save [.ref b, .int x0] w Q := ct_mk ml_X10_save mg_X10_save rfl (Nat.le_of_ble_eq_true rfl) h
theorem ml_X10_restore : m_l n_X10_restore = 2 := by decide +kernel
theorem mr_X10_restore : m_r n_X10_restore = some .int := by decide +kernel
theorem mh_X10_restore : m_hh n_X10_restore = [] := by decide +kernel
theorem mg_X10_restore : (m_gc n_X10_restore, m_gs n_X10_restore, m_al n_X10_restore) = (0, 0, false) := by decide +kernel
theorem ct_X10_restore {b : Nat} {x0 : Int32} {w : mW} {Q : mW → mO → Prop} (h : RT n_X10_restore 0 [.ref b, .int x0] [] w (0, 0, false) Q) : CT n_X10_restore [.ref b, .int x0] w Q := ct_mk ml_X10_restore mg_X10_restore rfl (Nat.le_of_ble_eq_true rfl) h
theorem ml_X10_undo : m_l n_X10_undo = 1 := by decide +kernel
theorem mr_X10_undo : m_r n_X10_undo = some .int := by decide +kernel
theorem mh_X10_undo : m_hh n_X10_undo = [] := by decide +kernel
theorem mg_X10_undo : (m_gc n_X10_undo, m_gs n_X10_undo, m_al n_X10_undo) = (0, 0, false) := by decide +kernel
theorem ct_X10_undo {b : Nat} {w : mW} {Q : mW → mO → Prop} (h : RT n_X10_undo 0 [.ref b] [] w (0, 0, false) Q) : CT n_X10_undo [.ref b] w Q := ct_mk ml_X10_undo mg_X10_undo rfl (Nat.le_of_ble_eq_true rfl) h
theorem ml_X10_changeCount : m_l n_X10_changeCount = 1 := by decide +kernel
theorem mr_X10_changeCount : m_r n_X10_changeCount = some .int := by decide +kernel
theorem mh_X10_changeCount : m_hh n_X10_changeCount = [] := by decide +kernel
theorem mg_X10_changeCount : (m_gc n_X10_changeCount, m_gs n_X10_changeCount, m_al n_X10_changeCount) = (0, 0, false) := by decide +kernel
theorem ct_X10_changeCount {b : Nat} {w : mW} {Q : mW → mO → Prop} (h : RT n_X10_changeCount 0 [.ref b] [] w (0, 0, false) Q) : CT n_X10_changeCount [.ref b] w Q := ct_mk ml_X10_changeCount mg_X10_changeCount rfl (Nat.le_of_ble_eq_true rfl) h
theorem ml_J6_bitCount_0f7a4 : m_l n_J6_bitCount_0f7a4 = 1 := by decide +kernel
theorem mr_J6_bitCount_0f7a4 : m_r n_J6_bitCount_0f7a4 = some .int := by decide +kernel
theorem mh_J6_bitCount_0f7a4 : m_hh n_J6_bitCount_0f7a4 = [] := by decide +kernel
theorem mg_J6_bitCount_0f7a4 : (m_gc n_J6_bitCount_0f7a4, m_gs n_J6_bitCount_0f7a4, m_al n_J6_bitCount_0f7a4) = (0, 0, false) := by decide +kernel
theorem ct_J6_bitCount_0f7a4 {x0 : Int32} {w : mW} {Q : mW → mO → Prop} (h : RT n_J6_bitCount_0f7a4 0 [.int x0] [] w (0, 0, false) Q) : CT n_J6_bitCount_0f7a4 [.int x0] w Q := ct_mk ml_J6_bitCount_0f7a4 mg_J6_bitCount_0f7a4 rfl (Nat.le_of_ble_eq_true rfl) h
theorem ml_J9_floorMod_7cf53 : m_l n_J9_floorMod_7cf53 = 3 := by decide +kernel
theorem mr_J9_floorMod_7cf53 : m_r n_J9_floorMod_7cf53 = some .int := by decide +kernel
theorem mh_J9_floorMod_7cf53 : m_hh n_J9_floorMod_7cf53 = [] := by decide +kernel
theorem mg_J9_floorMod_7cf53 : (m_gc n_J9_floorMod_7cf53, m_gs n_J9_floorMod_7cf53, m_al n_J9_floorMod_7cf53) = (0, 0, false) := by decide +kernel
theorem ct_J9_floorMod_7cf53 {x0 : Int32} {x1 : Int32} {w : mW} {Q : mW → mO → Prop} (h : RT n_J9_floorMod_7cf53 0 [.int x0, .int x1, .null] [] w (0, 0, false) Q) : CT n_J9_floorMod_7cf53 [.int x0, .int x1] w Q := ct_mk ml_J9_floorMod_7cf53 mg_J9_floorMod_7cf53 rfl (Nat.le_of_ble_eq_true rfl) h
theorem ml_J9_floorMod_f86c9 : m_l n_J9_floorMod_f86c9 = 6 := by decide +kernel
theorem mr_J9_floorMod_f86c9 : m_r n_J9_floorMod_f86c9 = some .long := by decide +kernel
theorem mh_J9_floorMod_f86c9 : m_hh n_J9_floorMod_f86c9 = [] := by decide +kernel
theorem mg_J9_floorMod_f86c9 : (m_gc n_J9_floorMod_f86c9, m_gs n_J9_floorMod_f86c9, m_al n_J9_floorMod_f86c9) = (0, 0, false) := by decide +kernel
theorem ct_J9_floorMod_f86c9 {x0 : Int64} {x1 : Int64} {w : mW} {Q : mW → mO → Prop} (h : RT n_J9_floorMod_f86c9 0 [.long x0, .null, .long x1, .null, .null, .null] [] w (0, 0, false) Q) : CT n_J9_floorMod_f86c9 [.long x0, .long x1] w Q := ct_mk ml_J9_floorMod_f86c9 mg_J9_floorMod_f86c9 rfl (Nat.le_of_ble_eq_true rfl) h
theorem ml_J9_abs_0f7a4 : m_l n_J9_abs_0f7a4 = 1 := by decide +kernel
theorem mr_J9_abs_0f7a4 : m_r n_J9_abs_0f7a4 = some .int := by decide +kernel
theorem mh_J9_abs_0f7a4 : m_hh n_J9_abs_0f7a4 = [] := by decide +kernel
theorem mg_J9_abs_0f7a4 : (m_gc n_J9_abs_0f7a4, m_gs n_J9_abs_0f7a4, m_al n_J9_abs_0f7a4) = (0, 0, false) := by decide +kernel
theorem ct_J9_abs_0f7a4 {x0 : Int32} {w : mW} {Q : mW → mO → Prop} (h : RT n_J9_abs_0f7a4 0 [.int x0] [] w (0, 0, false) Q) : CT n_J9_abs_0f7a4 [.int x0] w Q := ct_mk ml_J9_abs_0f7a4 mg_J9_abs_0f7a4 rfl (Nat.le_of_ble_eq_true rfl) h
theorem ml_J9_max_7cf53 : m_l n_J9_max_7cf53 = 2 := by decide +kernel
theorem mr_J9_max_7cf53 : m_r n_J9_max_7cf53 = some .int := by decide +kernel
theorem mh_J9_max_7cf53 : m_hh n_J9_max_7cf53 = [] := by decide +kernel
theorem mg_J9_max_7cf53 : (m_gc n_J9_max_7cf53, m_gs n_J9_max_7cf53, m_al n_J9_max_7cf53) = (0, 0, false) := by decide +kernel
theorem ct_J9_max_7cf53 {x0 : Int32} {x1 : Int32} {w : mW} {Q : mW → mO → Prop} (h : RT n_J9_max_7cf53 0 [.int x0, .int x1] [] w (0, 0, false) Q) : CT n_J9_max_7cf53 [.int x0, .int x1] w Q := ct_mk ml_J9_max_7cf53 mg_J9_max_7cf53 rfl (Nat.le_of_ble_eq_true rfl) h
theorem ml_J9_min_7cf53 : m_l n_J9_min_7cf53 = 2 := by decide +kernel
theorem mr_J9_min_7cf53 : m_r n_J9_min_7cf53 = some .int := by decide +kernel
theorem mh_J9_min_7cf53 : m_hh n_J9_min_7cf53 = [] := by decide +kernel
theorem mg_J9_min_7cf53 : (m_gc n_J9_min_7cf53, m_gs n_J9_min_7cf53, m_al n_J9_min_7cf53) = (0, 0, false) := by decide +kernel
theorem ct_J9_min_7cf53 {x0 : Int32} {x1 : Int32} {w : mW} {Q : mW → mO → Prop} (h : RT n_J9_min_7cf53 0 [.int x0, .int x1] [] w (0, 0, false) Q) : CT n_J9_min_7cf53 [.int x0, .int x1] w Q := ct_mk ml_J9_min_7cf53 mg_J9_min_7cf53 rfl (Nat.le_of_ble_eq_true rfl) h
theorem ml_J7_fill_53178 : m_l n_J7_fill_53178 = 4 := by decide +kernel
theorem mr_J7_fill_53178 : m_r n_J7_fill_53178 = none := by decide +kernel
theorem mh_J7_fill_53178 : m_hh n_J7_fill_53178 = [] := by decide +kernel
theorem mg_J7_fill_53178 : (m_gc n_J7_fill_53178, m_gs n_J7_fill_53178, m_al n_J7_fill_53178) = (0, 0, false) := by decide +kernel
theorem ct_J7_fill_53178 {r0 : Nat} {x1 : Int32} {w : mW} {Q : mW → mO → Prop} (h : RT n_J7_fill_53178 0 [.ref r0, .int x1, .null, .null] [] w (0, 0, false) Q) : CT n_J7_fill_53178 [.ref r0, .int x1] w Q := ct_mk ml_J7_fill_53178 mg_J7_fill_53178 rfl (Nat.le_of_ble_eq_true rfl) h
theorem ml_L_append : m_l n_L_append = 8 := by decide +kernel
theorem mr_L_append : m_r n_L_append = some .int := by decide +kernel
theorem mh_L_append : m_hh n_L_append = [(0, 16, 19, 13)] := by decide +kernel
theorem mg_L_append : (m_gc n_L_append, m_gs n_L_append, m_al n_L_append) = (1, 6, false) := by decide +kernel
theorem ct_L_append {r0 : Nat} {x1 : Int32} {x2 : Int32} {x3 : Int32} {x4 : Int32} {x5 : Int32} {r6 : Nat} {w : mW} {Q : mW → mO → Prop} (h : RT n_L_append 0 [.ref r0, .int x1, .int x2, .int x3, .int x4, .int x5, .ref r6, .null] [] w (1, 6, false) Q) : CT n_L_append [.ref r0, .int x1, .int x2, .int x3, .int x4, .int x5, .ref r6] w Q := ct_mk ml_L_append mg_L_append rfl (Nat.le_of_ble_eq_true rfl) h
theorem ml_L_truncate : m_l n_L_truncate = 4 := by decide +kernel
theorem mr_L_truncate : m_r n_L_truncate = some .int := by decide +kernel
theorem mh_L_truncate : m_hh n_L_truncate = [(0, 9, 12, 19)] := by decide +kernel
theorem mg_L_truncate : (m_gc n_L_truncate, m_gs n_L_truncate, m_al n_L_truncate) = (1, 6, false) := by decide +kernel
theorem ct_L_truncate {r0 : Nat} {x1 : Int32} {r2 : Nat} {w : mW} {Q : mW → mO → Prop} (h : RT n_L_truncate 0 [.ref r0, .int x1, .ref r2, .null] [] w (1, 6, false) Q) : CT n_L_truncate [.ref r0, .int x1, .ref r2] w Q := ct_mk ml_L_truncate mg_L_truncate rfl (Nat.le_of_ble_eq_true rfl) h
theorem ml_L_script : m_l n_L_script = 3 := by decide +kernel
theorem mr_L_script : m_r n_L_script = some .int := by decide +kernel
theorem mh_L_script : m_hh n_L_script = [(0, 8, 11, 13)] := by decide +kernel
theorem mg_L_script : (m_gc n_L_script, m_gs n_L_script, m_al n_L_script) = (1, 6, false) := by decide +kernel
theorem ct_L_script {r0 : Nat} {r1 : Nat} {w : mW} {Q : mW → mO → Prop} (h : RT n_L_script 0 [.ref r0, .ref r1, .null] [] w (1, 6, false) Q) : CT n_L_script [.ref r0, .ref r1] w Q := ct_mk ml_L_script mg_L_script rfl (Nat.le_of_ble_eq_true rfl) h
theorem ml_L_setPin : m_l n_L_setPin = 5 := by decide +kernel
theorem mr_L_setPin : m_r n_L_setPin = some .int := by decide +kernel
theorem mh_L_setPin : m_hh n_L_setPin = [(0, 10, 13, 29), (0, 10, 17, 19), (0, 10, 21, 13)] := by decide +kernel
theorem mg_L_setPin : (m_gc n_L_setPin, m_gs n_L_setPin, m_al n_L_setPin) = (3, 18, false) := by decide +kernel
theorem ct_L_setPin {r0 : Nat} {x1 : Int32} {x2 : Int32} {r3 : Nat} {w : mW} {Q : mW → mO → Prop} (h : RT n_L_setPin 0 [.ref r0, .int x1, .int x2, .ref r3, .null] [] w (3, 18, false) Q) : CT n_L_setPin [.ref r0, .int x1, .int x2, .ref r3] w Q := ct_mk ml_L_setPin mg_L_setPin rfl (Nat.le_of_ble_eq_true rfl) h
theorem ml_L_setPins : m_l n_L_setPins = 4 := by decide +kernel
theorem mr_L_setPins : m_r n_L_setPins = some .int := by decide +kernel
theorem mh_L_setPins : m_hh n_L_setPins = [(0, 9, 12, 19), (0, 9, 15, 13)] := by decide +kernel
theorem mg_L_setPins : (m_gc n_L_setPins, m_gs n_L_setPins, m_al n_L_setPins) = (2, 12, false) := by decide +kernel
theorem ct_L_setPins {r0 : Nat} {x1 : Int32} {r2 : Nat} {w : mW} {Q : mW → mO → Prop} (h : RT n_L_setPins 0 [.ref r0, .int x1, .ref r2, .null] [] w (2, 12, false) Q) : CT n_L_setPins [.ref r0, .int x1, .ref r2] w Q := ct_mk ml_L_setPins mg_L_setPins rfl (Nat.le_of_ble_eq_true rfl) h
theorem ml_L_turn : m_l n_L_turn = 4 := by decide +kernel
theorem mr_L_turn : m_r n_L_turn = some .int := by decide +kernel
theorem mh_L_turn : m_hh n_L_turn = [(0, 9, 12, 19), (0, 9, 15, 13)] := by decide +kernel
theorem mg_L_turn : (m_gc n_L_turn, m_gs n_L_turn, m_al n_L_turn) = (2, 12, false) := by decide +kernel
theorem ct_L_turn {r0 : Nat} {x1 : Int32} {r2 : Nat} {w : mW} {Q : mW → mO → Prop} (h : RT n_L_turn 0 [.ref r0, .int x1, .ref r2, .null] [] w (2, 12, false) Q) : CT n_L_turn [.ref r0, .int x1, .ref r2] w Q := ct_mk ml_L_turn mg_L_turn rfl (Nat.le_of_ble_eq_true rfl) h
theorem ml_L_shift : m_l n_L_shift = 4 := by decide +kernel
theorem mr_L_shift : m_r n_L_shift = some .int := by decide +kernel
theorem mh_L_shift : m_hh n_L_shift = [(0, 9, 12, 13), (0, 9, 15, 19)] := by decide +kernel
theorem mg_L_shift : (m_gc n_L_shift, m_gs n_L_shift, m_al n_L_shift) = (2, 12, false) := by decide +kernel
theorem ct_L_shift {r0 : Nat} {x1 : Int32} {r2 : Nat} {w : mW} {Q : mW → mO → Prop} (h : RT n_L_shift 0 [.ref r0, .int x1, .ref r2, .null] [] w (2, 12, false) Q) : CT n_L_shift [.ref r0, .int x1, .ref r2] w Q := ct_mk ml_L_shift mg_L_shift rfl (Nat.le_of_ble_eq_true rfl) h
theorem ml_L_clear : m_l n_L_clear = 4 := by decide +kernel
theorem mr_L_clear : m_r n_L_clear = some .int := by decide +kernel
theorem mh_L_clear : m_hh n_L_clear = [(0, 9, 12, 19), (0, 9, 15, 13)] := by decide +kernel
theorem mg_L_clear : (m_gc n_L_clear, m_gs n_L_clear, m_al n_L_clear) = (2, 12, false) := by decide +kernel
theorem ct_L_clear {r0 : Nat} {x1 : Int32} {r2 : Nat} {w : mW} {Q : mW → mO → Prop} (h : RT n_L_clear 0 [.ref r0, .int x1, .ref r2, .null] [] w (2, 12, false) Q) : CT n_L_clear [.ref r0, .int x1, .ref r2] w Q := ct_mk ml_L_clear mg_L_clear rfl (Nat.le_of_ble_eq_true rfl) h
theorem ml_L_multiply : m_l n_L_multiply = 5 := by decide +kernel
theorem mr_L_multiply : m_r n_L_multiply = some .int := by decide +kernel
theorem mh_L_multiply : m_hh n_L_multiply = [(0, 10, 13, 19), (0, 10, 17, 13)] := by decide +kernel
theorem mg_L_multiply : (m_gc n_L_multiply, m_gs n_L_multiply, m_al n_L_multiply) = (3, 18, false) := by decide +kernel
theorem ct_L_multiply {r0 : Nat} {x1 : Int32} {x2 : Int32} {r3 : Nat} {w : mW} {Q : mW → mO → Prop} (h : RT n_L_multiply 0 [.ref r0, .int x1, .int x2, .ref r3, .null] [] w (3, 18, false) Q) : CT n_L_multiply [.ref r0, .int x1, .int x2, .ref r3] w Q := ct_mk ml_L_multiply mg_L_multiply rfl (Nat.le_of_ble_eq_true rfl) h
theorem ml_L_divide : m_l n_L_divide = 3 := by decide +kernel
theorem mr_L_divide : m_r n_L_divide = some .int := by decide +kernel
theorem mh_L_divide : m_hh n_L_divide = [(0, 8, 11, 13)] := by decide +kernel
theorem mg_L_divide : (m_gc n_L_divide, m_gs n_L_divide, m_al n_L_divide) = (2, 12, false) := by decide +kernel
theorem ct_L_divide {r0 : Nat} {r1 : Nat} {w : mW} {Q : mW → mO → Prop} (h : RT n_L_divide 0 [.ref r0, .ref r1, .null] [] w (2, 12, false) Q) : CT n_L_divide [.ref r0, .ref r1] w Q := ct_mk ml_L_divide mg_L_divide rfl (Nat.le_of_ble_eq_true rfl) h
theorem ml_L_transfer : m_l n_L_transfer = 3 := by decide +kernel
theorem mr_L_transfer : m_r n_L_transfer = some .int := by decide +kernel
theorem mh_L_transfer : m_hh n_L_transfer = [(0, 8, 11, 13)] := by decide +kernel
theorem mg_L_transfer : (m_gc n_L_transfer, m_gs n_L_transfer, m_al n_L_transfer) = (1, 6, false) := by decide +kernel
theorem ct_L_transfer {r0 : Nat} {r1 : Nat} {w : mW} {Q : mW → mO → Prop} (h : RT n_L_transfer 0 [.ref r0, .ref r1, .null] [] w (1, 6, false) Q) : CT n_L_transfer [.ref r0, .ref r1] w Q := ct_mk ml_L_transfer mg_L_transfer rfl (Nat.le_of_ble_eq_true rfl) h
theorem ml_L_crankBack : m_l n_L_crankBack = 3 := by decide +kernel
theorem mr_L_crankBack : m_r n_L_crankBack = some .int := by decide +kernel
theorem mh_L_crankBack : m_hh n_L_crankBack = [(0, 8, 11, 13)] := by decide +kernel
theorem mg_L_crankBack : (m_gc n_L_crankBack, m_gs n_L_crankBack, m_al n_L_crankBack) = (1, 6, false) := by decide +kernel
theorem ct_L_crankBack {r0 : Nat} {r1 : Nat} {w : mW} {Q : mW → mO → Prop} (h : RT n_L_crankBack 0 [.ref r0, .ref r1, .null] [] w (1, 6, false) Q) : CT n_L_crankBack [.ref r0, .ref r1] w Q := ct_mk ml_L_crankBack mg_L_crankBack rfl (Nat.le_of_ble_eq_true rfl) h
theorem ml_L_free : m_l n_L_free = 3 := by decide +kernel
theorem mr_L_free : m_r n_L_free = some .int := by decide +kernel
theorem mh_L_free : m_hh n_L_free = [(0, 8, 11, 13)] := by decide +kernel
theorem mg_L_free : (m_gc n_L_free, m_gs n_L_free, m_al n_L_free) = (1, 6, false) := by decide +kernel
theorem ct_L_free {r0 : Nat} {r1 : Nat} {w : mW} {Q : mW → mO → Prop} (h : RT n_L_free 0 [.ref r0, .ref r1, .null] [] w (1, 6, false) Q) : CT n_L_free [.ref r0, .ref r1] w Q := ct_mk ml_L_free mg_L_free rfl (Nat.le_of_ble_eq_true rfl) h
theorem ml_L_damage : m_l n_L_damage = 5 := by decide +kernel
theorem mr_L_damage : m_r n_L_damage = some .int := by decide +kernel
theorem mh_L_damage : m_hh n_L_damage = [(0, 10, 13, 29), (0, 10, 17, 19), (0, 10, 21, 13)] := by decide +kernel
theorem mg_L_damage : (m_gc n_L_damage, m_gs n_L_damage, m_al n_L_damage) = (3, 18, false) := by decide +kernel
theorem ct_L_damage {r0 : Nat} {x1 : Int32} {x2 : Int32} {r3 : Nat} {w : mW} {Q : mW → mO → Prop} (h : RT n_L_damage 0 [.ref r0, .int x1, .int x2, .ref r3, .null] [] w (3, 18, false) Q) : CT n_L_damage [.ref r0, .int x1, .int x2, .ref r3] w Q := ct_mk ml_L_damage mg_L_damage rfl (Nat.le_of_ble_eq_true rfl) h
theorem ml_L_repair : m_l n_L_repair = 4 := by decide +kernel
theorem mr_L_repair : m_r n_L_repair = some .int := by decide +kernel
theorem mh_L_repair : m_hh n_L_repair = [(0, 9, 12, 29), (0, 9, 15, 13)] := by decide +kernel
theorem mg_L_repair : (m_gc n_L_repair, m_gs n_L_repair, m_al n_L_repair) = (2, 12, false) := by decide +kernel
theorem ct_L_repair {r0 : Nat} {x1 : Int32} {r2 : Nat} {w : mW} {Q : mW → mO → Prop} (h : RT n_L_repair 0 [.ref r0, .int x1, .ref r2, .null] [] w (2, 12, false) Q) : CT n_L_repair [.ref r0, .int x1, .ref r2] w Q := ct_mk ml_L_repair mg_L_repair rfl (Nat.le_of_ble_eq_true rfl) h
theorem ml_L_state : m_l n_L_state = 4 := by decide +kernel
theorem mr_L_state : m_r n_L_state = some .int := by decide +kernel
theorem mh_L_state : m_hh n_L_state = [(0, 9, 12, 19)] := by decide +kernel
theorem mg_L_state : (m_gc n_L_state, m_gs n_L_state, m_al n_L_state) = (1, 6, false) := by decide +kernel
theorem ct_L_state {r0 : Nat} {x1 : Int32} {r2 : Nat} {w : mW} {Q : mW → mO → Prop} (h : RT n_L_state 0 [.ref r0, .int x1, .ref r2, .null] [] w (1, 6, false) Q) : CT n_L_state [.ref r0, .int x1, .ref r2] w Q := ct_mk ml_L_state mg_L_state rfl (Nat.le_of_ble_eq_true rfl) h
theorem ml_L_count : m_l n_L_count = 4 := by decide +kernel
theorem mr_L_count : m_r n_L_count = some .int := by decide +kernel
theorem mh_L_count : m_hh n_L_count = [(0, 9, 12, 19)] := by decide +kernel
theorem mg_L_count : (m_gc n_L_count, m_gs n_L_count, m_al n_L_count) = (1, 6, false) := by decide +kernel
theorem ct_L_count {r0 : Nat} {x1 : Int32} {r2 : Nat} {w : mW} {Q : mW → mO → Prop} (h : RT n_L_count 0 [.ref r0, .int x1, .ref r2, .null] [] w (1, 6, false) Q) : CT n_L_count [.ref r0, .int x1, .ref r2] w Q := ct_mk ml_L_count mg_L_count rfl (Nat.le_of_ble_eq_true rfl) h
theorem ml_L_digit : m_l n_L_digit = 4 := by decide +kernel
theorem mr_L_digit : m_r n_L_digit = some .int := by decide +kernel
theorem mh_L_digit : m_hh n_L_digit = [(0, 9, 12, 29)] := by decide +kernel
theorem mg_L_digit : (m_gc n_L_digit, m_gs n_L_digit, m_al n_L_digit) = (1, 6, false) := by decide +kernel
theorem ct_L_digit {r0 : Nat} {x1 : Int32} {r2 : Nat} {w : mW} {Q : mW → mO → Prop} (h : RT n_L_digit 0 [.ref r0, .int x1, .ref r2, .null] [] w (1, 6, false) Q) : CT n_L_digit [.ref r0, .int x1, .ref r2] w Q := ct_mk ml_L_digit mg_L_digit rfl (Nat.le_of_ble_eq_true rfl) h
theorem ml_L_counterDigit : m_l n_L_counterDigit = 4 := by decide +kernel
theorem mr_L_counterDigit : m_r n_L_counterDigit = some .int := by decide +kernel
theorem mh_L_counterDigit : m_hh n_L_counterDigit = [(0, 9, 12, 29)] := by decide +kernel
theorem mg_L_counterDigit : (m_gc n_L_counterDigit, m_gs n_L_counterDigit, m_al n_L_counterDigit) = (1, 6, false) := by decide +kernel
theorem ct_L_counterDigit {r0 : Nat} {x1 : Int32} {r2 : Nat} {w : mW} {Q : mW → mO → Prop} (h : RT n_L_counterDigit 0 [.ref r0, .int x1, .ref r2, .null] [] w (1, 6, false) Q) : CT n_L_counterDigit [.ref r0, .int x1, .ref r2] w Q := ct_mk ml_L_counterDigit mg_L_counterDigit rfl (Nat.le_of_ble_eq_true rfl) h
theorem ml_L_pin : m_l n_L_pin = 4 := by decide +kernel
theorem mr_L_pin : m_r n_L_pin = some .int := by decide +kernel
theorem mh_L_pin : m_hh n_L_pin = [(0, 9, 12, 29)] := by decide +kernel
theorem mg_L_pin : (m_gc n_L_pin, m_gs n_L_pin, m_al n_L_pin) = (1, 6, false) := by decide +kernel
theorem ct_L_pin {r0 : Nat} {x1 : Int32} {r2 : Nat} {w : mW} {Q : mW → mO → Prop} (h : RT n_L_pin 0 [.ref r0, .int x1, .ref r2, .null] [] w (1, 6, false) Q) : CT n_L_pin [.ref r0, .int x1, .ref r2] w Q := ct_mk ml_L_pin mg_L_pin rfl (Nat.le_of_ble_eq_true rfl) h
theorem ml_L_fault : m_l n_L_fault = 4 := by decide +kernel
theorem mr_L_fault : m_r n_L_fault = some .int := by decide +kernel
theorem mh_L_fault : m_hh n_L_fault = [(0, 9, 12, 29)] := by decide +kernel
theorem mg_L_fault : (m_gc n_L_fault, m_gs n_L_fault, m_al n_L_fault) = (1, 6, false) := by decide +kernel
theorem ct_L_fault {r0 : Nat} {x1 : Int32} {r2 : Nat} {w : mW} {Q : mW → mO → Prop} (h : RT n_L_fault 0 [.ref r0, .int x1, .ref r2, .null] [] w (1, 6, false) Q) : CT n_L_fault [.ref r0, .int x1, .ref r2] w Q := ct_mk ml_L_fault mg_L_fault rfl (Nat.le_of_ble_eq_true rfl) h
theorem ml_L_isLeverSet : m_l n_L_isLeverSet = 4 := by decide +kernel
theorem mr_L_isLeverSet : m_r n_L_isLeverSet = some .int := by decide +kernel
theorem mh_L_isLeverSet : m_hh n_L_isLeverSet = [(0, 16, 19, 29)] := by decide +kernel
theorem mg_L_isLeverSet : (m_gc n_L_isLeverSet, m_gs n_L_isLeverSet, m_al n_L_isLeverSet) = (1, 6, false) := by decide +kernel
theorem ct_L_isLeverSet {r0 : Nat} {x1 : Int32} {r2 : Nat} {w : mW} {Q : mW → mO → Prop} (h : RT n_L_isLeverSet 0 [.ref r0, .int x1, .ref r2, .null] [] w (1, 6, false) Q) : CT n_L_isLeverSet [.ref r0, .int x1, .ref r2] w Q := ct_mk ml_L_isLeverSet mg_L_isLeverSet rfl (Nat.le_of_ble_eq_true rfl) h
theorem ml_L_jam : m_l n_L_jam = 4 := by decide +kernel
theorem mr_L_jam : m_r n_L_jam = some .int := by decide +kernel
theorem mh_L_jam : m_hh n_L_jam = [(0, 9, 12, 13), (0, 9, 15, 19)] := by decide +kernel
theorem mg_L_jam : (m_gc n_L_jam, m_gs n_L_jam, m_al n_L_jam) = (2, 12, false) := by decide +kernel
theorem ct_L_jam {r0 : Nat} {x1 : Int32} {r2 : Nat} {w : mW} {Q : mW → mO → Prop} (h : RT n_L_jam 0 [.ref r0, .int x1, .ref r2, .null] [] w (2, 12, false) Q) : CT n_L_jam [.ref r0, .int x1, .ref r2] w Q := ct_mk ml_L_jam mg_L_jam rfl (Nat.le_of_ble_eq_true rfl) h
theorem ml_L_steps : m_l n_L_steps = 4 := by decide +kernel
theorem mr_L_steps : m_r n_L_steps = some .int := by decide +kernel
theorem mh_L_steps : m_hh n_L_steps = [(0, 9, 12, 29)] := by decide +kernel
theorem mg_L_steps : (m_gc n_L_steps, m_gs n_L_steps, m_al n_L_steps) = (1, 6, false) := by decide +kernel
theorem ct_L_steps {r0 : Nat} {x1 : Int32} {r2 : Nat} {w : mW} {Q : mW → mO → Prop} (h : RT n_L_steps 0 [.ref r0, .int x1, .ref r2, .null] [] w (1, 6, false) Q) : CT n_L_steps [.ref r0, .int x1, .ref r2] w Q := ct_mk ml_L_steps mg_L_steps rfl (Nat.le_of_ble_eq_true rfl) h
theorem ml_L_logged : m_l n_L_logged = 5 := by decide +kernel
theorem mr_L_logged : m_r n_L_logged = some .int := by decide +kernel
theorem mh_L_logged : m_hh n_L_logged = [(0, 10, 13, 96), (0, 10, 17, 19)] := by decide +kernel
theorem mg_L_logged : (m_gc n_L_logged, m_gs n_L_logged, m_al n_L_logged) = (1, 6, false) := by decide +kernel
theorem ct_L_logged {r0 : Nat} {x1 : Int32} {x2 : Int32} {r3 : Nat} {w : mW} {Q : mW → mO → Prop} (h : RT n_L_logged 0 [.ref r0, .int x1, .int x2, .ref r3, .null] [] w (1, 6, false) Q) : CT n_L_logged [.ref r0, .int x1, .int x2, .ref r3] w Q := ct_mk ml_L_logged mg_L_logged rfl (Nat.le_of_ble_eq_true rfl) h
theorem ml_L_textByte : m_l n_L_textByte = 4 := by decide +kernel
theorem mr_L_textByte : m_r n_L_textByte = some .int := by decide +kernel
theorem mh_L_textByte : m_hh n_L_textByte = [(0, 9, 12, 96)] := by decide +kernel
theorem mg_L_textByte : (m_gc n_L_textByte, m_gs n_L_textByte, m_al n_L_textByte) = (1, 6, false) := by decide +kernel
theorem ct_L_textByte {r0 : Nat} {x1 : Int32} {r2 : Nat} {w : mW} {Q : mW → mO → Prop} (h : RT n_L_textByte 0 [.ref r0, .int x1, .ref r2, .null] [] w (1, 6, false) Q) : CT n_L_textByte [.ref r0, .int x1, .ref r2] w Q := ct_mk ml_L_textByte mg_L_textByte rfl (Nat.le_of_ble_eq_true rfl) h
theorem ml_L_resultAfter : m_l n_L_resultAfter = 4 := by decide +kernel
theorem mr_L_resultAfter : m_r n_L_resultAfter = some .int := by decide +kernel
theorem mh_L_resultAfter : m_hh n_L_resultAfter = [(0, 8, 11, 19), (0, 8, 14, 13)] := by decide +kernel
theorem mg_L_resultAfter : (m_gc n_L_resultAfter, m_gs n_L_resultAfter, m_al n_L_resultAfter) = (2, 12, false) := by decide +kernel
theorem ct_L_resultAfter {r0 : Nat} {x1 : Int32} {r2 : Nat} {w : mW} {Q : mW → mO → Prop} (h : RT n_L_resultAfter 0 [.ref r0, .int x1, .ref r2, .null] [] w (2, 12, false) Q) : CT n_L_resultAfter [.ref r0, .int x1, .ref r2] w Q := ct_mk ml_L_resultAfter mg_L_resultAfter rfl (Nat.le_of_ble_eq_true rfl) h
theorem ml_L_movedBy : m_l n_L_movedBy = 4 := by decide +kernel
theorem mr_L_movedBy : m_r n_L_movedBy = some .int := by decide +kernel
theorem mh_L_movedBy : m_hh n_L_movedBy = [(0, 9, 12, 13)] := by decide +kernel
theorem mg_L_movedBy : (m_gc n_L_movedBy, m_gs n_L_movedBy, m_al n_L_movedBy) = (1, 6, false) := by decide +kernel
theorem ct_L_movedBy {r0 : Nat} {x1 : Int32} {r2 : Nat} {w : mW} {Q : mW → mO → Prop} (h : RT n_L_movedBy 0 [.ref r0, .int x1, .ref r2, .null] [] w (1, 6, false) Q) : CT n_L_movedBy [.ref r0, .int x1, .ref r2] w Q := ct_mk ml_L_movedBy mg_L_movedBy rfl (Nat.le_of_ble_eq_true rfl) h
theorem ml_L_ripple : m_l n_L_ripple = 4 := by decide +kernel
theorem mr_L_ripple : m_r n_L_ripple = some .int := by decide +kernel
theorem mh_L_ripple : m_hh n_L_ripple = [(0, 9, 12, 13)] := by decide +kernel
theorem mg_L_ripple : (m_gc n_L_ripple, m_gs n_L_ripple, m_al n_L_ripple) = (1, 6, false) := by decide +kernel
theorem ct_L_ripple {r0 : Nat} {x1 : Int32} {r2 : Nat} {w : mW} {Q : mW → mO → Prop} (h : RT n_L_ripple 0 [.ref r0, .int x1, .ref r2, .null] [] w (1, 6, false) Q) : CT n_L_ripple [.ref r0, .int x1, .ref r2] w Q := ct_mk ml_L_ripple mg_L_ripple rfl (Nat.le_of_ble_eq_true rfl) h
theorem ml_L_turnsToBell : m_l n_L_turnsToBell = 5 := by decide +kernel
theorem mr_L_turnsToBell : m_r n_L_turnsToBell = some .int := by decide +kernel
theorem mh_L_turnsToBell : m_hh n_L_turnsToBell = [(0, 10, 13, 19), (0, 10, 17, 13)] := by decide +kernel
theorem mg_L_turnsToBell : (m_gc n_L_turnsToBell, m_gs n_L_turnsToBell, m_al n_L_turnsToBell) = (2, 12, false) := by decide +kernel
theorem ct_L_turnsToBell {r0 : Nat} {x1 : Int32} {x2 : Int32} {r3 : Nat} {w : mW} {Q : mW → mO → Prop} (h : RT n_L_turnsToBell 0 [.ref r0, .int x1, .int x2, .ref r3, .null] [] w (2, 12, false) Q) : CT n_L_turnsToBell [.ref r0, .int x1, .int x2, .ref r3] w Q := ct_mk ml_L_turnsToBell mg_L_turnsToBell rfl (Nat.le_of_ble_eq_true rfl) h
theorem ml_L_turnsFor : m_l n_L_turnsFor = 5 := by decide +kernel
theorem mr_L_turnsFor : m_r n_L_turnsFor = some .int := by decide +kernel
theorem mh_L_turnsFor : m_hh n_L_turnsFor = [(0, 10, 13, 19)] := by decide +kernel
theorem mg_L_turnsFor : (m_gc n_L_turnsFor, m_gs n_L_turnsFor, m_al n_L_turnsFor) = (1, 6, false) := by decide +kernel
theorem ct_L_turnsFor {r0 : Nat} {x1 : Int32} {x2 : Int32} {r3 : Nat} {w : mW} {Q : mW → mO → Prop} (h : RT n_L_turnsFor 0 [.ref r0, .int x1, .int x2, .ref r3, .null] [] w (1, 6, false) Q) : CT n_L_turnsFor [.ref r0, .int x1, .int x2, .ref r3] w Q := ct_mk ml_L_turnsFor mg_L_turnsFor rfl (Nat.le_of_ble_eq_true rfl) h
theorem ml_L_save : m_l n_L_save = 4 := by decide +kernel
theorem mr_L_save : m_r n_L_save = some .int := by decide +kernel
theorem mh_L_save : m_hh n_L_save = [(0, 9, 12, 19)] := by decide +kernel
theorem mg_L_save : (m_gc n_L_save, m_gs n_L_save, m_al n_L_save) = (1, 6, false) := by decide +kernel
theorem ct_L_save {r0 : Nat} {x1 : Int32} {r2 : Nat} {w : mW} {Q : mW → mO → Prop} (h : RT n_L_save 0 [.ref r0, .int x1, .ref r2, .null] [] w (1, 6, false) Q) : CT n_L_save [.ref r0, .int x1, .ref r2] w Q := ct_mk ml_L_save mg_L_save rfl (Nat.le_of_ble_eq_true rfl) h
theorem ml_L_restore : m_l n_L_restore = 4 := by decide +kernel
theorem mr_L_restore : m_r n_L_restore = some .int := by decide +kernel
theorem mh_L_restore : m_hh n_L_restore = [(0, 9, 12, 19), (0, 9, 15, 13)] := by decide +kernel
theorem mg_L_restore : (m_gc n_L_restore, m_gs n_L_restore, m_al n_L_restore) = (2, 12, false) := by decide +kernel
theorem ct_L_restore {r0 : Nat} {x1 : Int32} {r2 : Nat} {w : mW} {Q : mW → mO → Prop} (h : RT n_L_restore 0 [.ref r0, .int x1, .ref r2, .null] [] w (2, 12, false) Q) : CT n_L_restore [.ref r0, .int x1, .ref r2] w Q := ct_mk ml_L_restore mg_L_restore rfl (Nat.le_of_ble_eq_true rfl) h
theorem ml_L_undo : m_l n_L_undo = 3 := by decide +kernel
theorem mr_L_undo : m_r n_L_undo = some .int := by decide +kernel
theorem mh_L_undo : m_hh n_L_undo = [(0, 8, 11, 13)] := by decide +kernel
theorem mg_L_undo : (m_gc n_L_undo, m_gs n_L_undo, m_al n_L_undo) = (1, 6, false) := by decide +kernel
theorem ct_L_undo {r0 : Nat} {r1 : Nat} {w : mW} {Q : mW → mO → Prop} (h : RT n_L_undo 0 [.ref r0, .ref r1, .null] [] w (1, 6, false) Q) : CT n_L_undo [.ref r0, .ref r1] w Q := ct_mk ml_L_undo mg_L_undo rfl (Nat.le_of_ble_eq_true rfl) h
theorem ml_L_law : m_l n_L_law = 9 := by decide +kernel
theorem mr_L_law : m_r n_L_law = some .boolean := by decide +kernel
theorem mh_L_law : m_hh n_L_law = [] := by decide +kernel
theorem mg_L_law : (m_gc n_L_law, m_gs n_L_law, m_al n_L_law) = (601024, 7293034, false) := by decide +kernel
