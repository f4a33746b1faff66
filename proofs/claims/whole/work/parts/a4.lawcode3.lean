def bLa30 : List BK := [(1321, [(1321, .aload_n 1, 0, 0), (1322, .aload_n 0, 0, 0), (1323, .iload_n 3, 0, 0), (1324, .iconst 1, 1, 0), (1325, .iadd, 0, 0), (1326, .iaload, 0, 0), (1327, .aload_n 0, 0, 0), (1328, .iload_n 3, 0, 0), (1329, .iconst 2, 2, 0), (1330, .iadd, 0, 0), (1331, .iaload, 0, 0), (1332, .invokevirtual 140, 112, 3)], 1335)]
theorem tLa30 : z_chkM 279 bLa30 = true := by decide +kernel
def bLb30 : List BK := [(1335, [(1335, .aload_n 2, 0, 0), (1336, .aload_n 0, 0, 0), (1337, .iload_n 3, 0, 0), (1338, .iconst 1, 1, 0), (1339, .iadd, 0, 0), (1340, .iaload, 0, 0), (1341, .aload_n 0, 0, 0), (1342, .iload_n 3, 0, 0), (1343, .iconst 2, 2, 0), (1344, .iadd, 0, 0), (1345, .iaload, 0, 0), (1346, .invokevirtual 143, 203, 3), (1349, .if_icmp .eq 431, 1780, 0)], 1352),
  (1352, [(1352, .iconst 0, 0, 0), (1353, .ireturn, 0, 0)], 1354)]
theorem tLb30 : z_chkM 279 bLb30 = true := by decide +kernel
def bLa31 : List BK := [(1354, [(1354, .aload_n 1, 0, 0), (1355, .aload_n 0, 0, 0), (1356, .iload_n 3, 0, 0), (1357, .iconst 1, 1, 0), (1358, .iadd, 0, 0), (1359, .iaload, 0, 0), (1360, .invokevirtual 144, 113, 2)], 1363)]
theorem tLa31 : z_chkM 279 bLa31 = true := by decide +kernel
def bLb31 : List BK := [(1363, [(1363, .aload_n 2, 0, 0), (1364, .aload_n 0, 0, 0), (1365, .iload_n 3, 0, 0), (1366, .iconst 1, 1, 0), (1367, .iadd, 0, 0), (1368, .iaload, 0, 0), (1369, .invokevirtual 147, 204, 2), (1372, .if_icmp .eq 408, 1780, 0)], 1375),
  (1375, [(1375, .iconst 0, 0, 0), (1376, .ireturn, 0, 0)], 1377)]
theorem tLb31 : z_chkM 279 bLb31 = true := by decide +kernel
def bLa32 : List BK := [(1377, [(1377, .aload_n 1, 0, 0), (1378, .aload_n 0, 0, 0), (1379, .iload_n 3, 0, 0), (1380, .iconst 1, 1, 0), (1381, .iadd, 0, 0), (1382, .iaload, 0, 0), (1383, .invokevirtual 148, 114, 2)], 1386)]
theorem tLa32 : z_chkM 279 bLa32 = true := by decide +kernel
def bLb32 : List BK := [(1386, [(1386, .aload_n 2, 0, 0), (1387, .aload_n 0, 0, 0), (1388, .iload_n 3, 0, 0), (1389, .iconst 1, 1, 0), (1390, .iadd, 0, 0), (1391, .iaload, 0, 0), (1392, .invokevirtual 151, 205, 2), (1395, .if_icmp .eq 385, 1780, 0)], 1398),
  (1398, [(1398, .iconst 0, 0, 0), (1399, .ireturn, 0, 0)], 1400)]
theorem tLb32 : z_chkM 279 bLb32 = true := by decide +kernel
def bLa33 : List BK := [(1400, [(1400, .aload_n 1, 0, 0), (1401, .aload_n 0, 0, 0), (1402, .iload_n 3, 0, 0), (1403, .iconst 1, 1, 0), (1404, .iadd, 0, 0), (1405, .iaload, 0, 0), (1406, .invokevirtual 152, 115, 2)], 1409)]
theorem tLa33 : z_chkM 279 bLa33 = true := by decide +kernel
def bLb33 : List BK := [(1409, [(1409, .aload_n 2, 0, 0), (1410, .aload_n 0, 0, 0), (1411, .iload_n 3, 0, 0), (1412, .iconst 1, 1, 0), (1413, .iadd, 0, 0), (1414, .iaload, 0, 0), (1415, .invokevirtual 155, 206, 2), (1418, .if_icmp .eq 362, 1780, 0)], 1421),
  (1421, [(1421, .iconst 0, 0, 0), (1422, .ireturn, 0, 0)], 1423)]
theorem tLb33 : z_chkM 279 bLb33 = true := by decide +kernel
def bLa34 : List BK := [(1423, [(1423, .aload_n 1, 0, 0), (1424, .aload_n 0, 0, 0), (1425, .iload_n 3, 0, 0), (1426, .iconst 1, 1, 0), (1427, .iadd, 0, 0), (1428, .iaload, 0, 0), (1429, .aload_n 0, 0, 0), (1430, .iload_n 3, 0, 0), (1431, .iconst 2, 2, 0), (1432, .iadd, 0, 0), (1433, .iaload, 0, 0), (1434, .aload_n 0, 0, 0), (1435, .iload_n 3, 0, 0), (1436, .iconst 3, 3, 0), (1437, .iadd, 0, 0), (1438, .iaload, 0, 0), (1439, .aload_n 0, 0, 0), (1440, .iload_n 3, 0, 0), (1441, .iconst 4, 4, 0), (1442, .iadd, 0, 0), (1443, .iaload, 0, 0), (1444, .invokevirtual 156, 116, 5)], 1447)]
theorem tLa34 : z_chkM 279 bLa34 = true := by decide +kernel
def bLb34 : List BK := [(1447, [(1447, .aload_n 2, 0, 0), (1448, .aload_n 0, 0, 0), (1449, .iload_n 3, 0, 0), (1450, .iconst 1, 1, 0), (1451, .iadd, 0, 0), (1452, .iaload, 0, 0), (1453, .aload_n 0, 0, 0), (1454, .iload_n 3, 0, 0), (1455, .iconst 2, 2, 0), (1456, .iadd, 0, 0), (1457, .iaload, 0, 0), (1458, .aload_n 0, 0, 0), (1459, .iload_n 3, 0, 0), (1460, .iconst 3, 3, 0), (1461, .iadd, 0, 0), (1462, .iaload, 0, 0), (1463, .aload_n 0, 0, 0), (1464, .iload_n 3, 0, 0), (1465, .iconst 4, 4, 0), (1466, .iadd, 0, 0), (1467, .iaload, 0, 0), (1468, .invokevirtual 159, 208, 5), (1471, .if_icmp .eq 309, 1780, 0)], 1474),
  (1474, [(1474, .iconst 0, 0, 0), (1475, .ireturn, 0, 0)], 1476)]
theorem tLb34 : z_chkM 279 bLb34 = true := by decide +kernel
def bLa35 : List BK := [(1476, [(1476, .aload_n 1, 0, 0), (1477, .aload_n 0, 0, 0), (1478, .iload_n 3, 0, 0), (1479, .iconst 1, 1, 0), (1480, .iadd, 0, 0), (1481, .iaload, 0, 0), (1482, .invokevirtual 160, 118, 2)], 1485)]
theorem tLa35 : z_chkM 279 bLa35 = true := by decide +kernel
def bLb35 : List BK := [(1485, [(1485, .aload_n 2, 0, 0), (1486, .aload_n 0, 0, 0), (1487, .iload_n 3, 0, 0), (1488, .iconst 1, 1, 0), (1489, .iadd, 0, 0), (1490, .iaload, 0, 0), (1491, .invokevirtual 163, 270, 2), (1494, .if_icmp .eq 286, 1780, 0)], 1497),
  (1497, [(1497, .iconst 0, 0, 0), (1498, .ireturn, 0, 0)], 1499)]
theorem tLb35 : z_chkM 279 bLb35 = true := by decide +kernel
def bLa36 : List BK := [(1499, [(1499, .aload_n 1, 0, 0), (1500, .aload_n 0, 0, 0), (1501, .iload_n 3, 0, 0), (1502, .iconst 1, 1, 0), (1503, .iadd, 0, 0), (1504, .iaload, 0, 0), (1505, .aload_n 0, 0, 0), (1506, .iload_n 3, 0, 0), (1507, .iconst 2, 2, 0), (1508, .iadd, 0, 0), (1509, .iaload, 0, 0), (1510, .aload_n 0, 0, 0), (1511, .iload_n 3, 0, 0), (1512, .iconst 3, 3, 0), (1513, .iadd, 0, 0), (1514, .iaload, 0, 0), (1515, .aload_n 0, 0, 0), (1516, .iload_n 3, 0, 0), (1517, .iconst 4, 4, 0), (1518, .iadd, 0, 0), (1519, .iaload, 0, 0), (1520, .invokevirtual 164, 108, 5)], 1523)]
theorem tLa36 : z_chkM 279 bLa36 = true := by decide +kernel
def bLb36 : List BK := [(1523, [(1523, .aload_n 2, 0, 0), (1524, .aload_n 0, 0, 0), (1525, .iload_n 3, 0, 0), (1526, .iconst 1, 1, 0), (1527, .iadd, 0, 0), (1528, .iaload, 0, 0), (1529, .aload_n 0, 0, 0), (1530, .iload_n 3, 0, 0), (1531, .iconst 2, 2, 0), (1532, .iadd, 0, 0), (1533, .iaload, 0, 0), (1534, .aload_n 0, 0, 0), (1535, .iload_n 3, 0, 0), (1536, .iconst 3, 3, 0), (1537, .iadd, 0, 0), (1538, .iaload, 0, 0), (1539, .aload_n 0, 0, 0), (1540, .iload_n 3, 0, 0), (1541, .iconst 4, 4, 0), (1542, .iadd, 0, 0), (1543, .iaload, 0, 0), (1544, .invokevirtual 167, 253, 5), (1547, .if_icmp .eq 233, 1780, 0)], 1550),
  (1550, [(1550, .iconst 0, 0, 0), (1551, .ireturn, 0, 0)], 1552)]
theorem tLb36 : z_chkM 279 bLb36 = true := by decide +kernel
def bLa37 : List BK := [(1552, [(1552, .aload_n 1, 0, 0), (1553, .aload_n 0, 0, 0), (1554, .iload_n 3, 0, 0), (1555, .iconst 1, 1, 0), (1556, .iadd, 0, 0), (1557, .iaload, 0, 0), (1558, .aload_n 0, 0, 0), (1559, .iload_n 3, 0, 0), (1560, .iconst 2, 2, 0), (1561, .iadd, 0, 0), (1562, .iaload, 0, 0), (1563, .aload_n 0, 0, 0), (1564, .iload_n 3, 0, 0), (1565, .iconst 3, 3, 0), (1566, .iadd, 0, 0), (1567, .iaload, 0, 0), (1568, .invokevirtual 168, 109, 4)], 1571)]
theorem tLa37 : z_chkM 279 bLa37 = true := by decide +kernel
def bLb37 : List BK := [(1571, [(1571, .aload_n 2, 0, 0), (1572, .aload_n 0, 0, 0), (1573, .iload_n 3, 0, 0), (1574, .iconst 1, 1, 0), (1575, .iadd, 0, 0), (1576, .iaload, 0, 0), (1577, .aload_n 0, 0, 0), (1578, .iload_n 3, 0, 0), (1579, .iconst 2, 2, 0), (1580, .iadd, 0, 0), (1581, .iaload, 0, 0), (1582, .aload_n 0, 0, 0), (1583, .iload_n 3, 0, 0), (1584, .iconst 3, 3, 0), (1585, .iadd, 0, 0), (1586, .iaload, 0, 0), (1587, .invokevirtual 171, 254, 4), (1590, .if_icmp .eq 190, 1780, 0)], 1593),
  (1593, [(1593, .iconst 0, 0, 0), (1594, .ireturn, 0, 0)], 1595)]
theorem tLb37 : z_chkM 279 bLb37 = true := by decide +kernel
def bLa38 : List BK := [(1595, [(1595, .aload_n 1, 0, 0), (1596, .aload_n 0, 0, 0), (1597, .iload_n 3, 0, 0), (1598, .iconst 1, 1, 0), (1599, .iadd, 0, 0), (1600, .iaload, 0, 0), (1601, .invokevirtual 172, 110, 2)], 1604)]
theorem tLa38 : z_chkM 279 bLa38 = true := by decide +kernel
def bLb38 : List BK := [(1604, [(1604, .aload_n 2, 0, 0), (1605, .aload_n 0, 0, 0), (1606, .iload_n 3, 0, 0), (1607, .iconst 1, 1, 0), (1608, .iadd, 0, 0), (1609, .iaload, 0, 0), (1610, .invokevirtual 175, 257, 2), (1613, .if_icmp .eq 167, 1780, 0)], 1616),
  (1616, [(1616, .iconst 0, 0, 0), (1617, .ireturn, 0, 0)], 1618)]
theorem tLb38 : z_chkM 279 bLb38 = true := by decide +kernel
def bLa39 : List BK := [(1618, [(1618, .aload_n 1, 0, 0), (1619, .aload_n 0, 0, 0), (1620, .iload_n 3, 0, 0), (1621, .iconst 1, 1, 0), (1622, .iadd, 0, 0), (1623, .iaload, 0, 0), (1624, .aload_n 0, 0, 0), (1625, .iload_n 3, 0, 0), (1626, .iconst 2, 2, 0), (1627, .iadd, 0, 0), (1628, .iaload, 0, 0), (1629, .aload_n 0, 0, 0), (1630, .iload_n 3, 0, 0), (1631, .iconst 3, 3, 0), (1632, .iadd, 0, 0), (1633, .iaload, 0, 0), (1634, .aload_n 0, 0, 0), (1635, .iload_n 3, 0, 0), (1636, .iconst 4, 4, 0), (1637, .iadd, 0, 0), (1638, .iaload, 0, 0), (1639, .invokevirtual 176, 117, 5)], 1642)]
theorem tLa39 : z_chkM 279 bLa39 = true := by decide +kernel
def bLb39 : List BK := [(1642, [(1642, .aload_n 2, 0, 0), (1643, .aload_n 0, 0, 0), (1644, .iload_n 3, 0, 0), (1645, .iconst 1, 1, 0), (1646, .iadd, 0, 0), (1647, .iaload, 0, 0), (1648, .aload_n 0, 0, 0), (1649, .iload_n 3, 0, 0), (1650, .iconst 2, 2, 0), (1651, .iadd, 0, 0), (1652, .iaload, 0, 0), (1653, .aload_n 0, 0, 0), (1654, .iload_n 3, 0, 0), (1655, .iconst 3, 3, 0), (1656, .iadd, 0, 0), (1657, .iaload, 0, 0), (1658, .aload_n 0, 0, 0), (1659, .iload_n 3, 0, 0), (1660, .iconst 4, 4, 0), (1661, .iadd, 0, 0), (1662, .iaload, 0, 0), (1663, .invokevirtual 179, 258, 5), (1666, .if_icmp .eq 114, 1780, 0)], 1669),
  (1669, [(1669, .iconst 0, 0, 0), (1670, .ireturn, 0, 0)], 1671)]
theorem tLb39 : z_chkM 279 bLb39 = true := by decide +kernel
def bLa40 : List BK := [(1671, [(1671, .aload_n 1, 0, 0), (1672, .aload_n 0, 0, 0), (1673, .iload_n 3, 0, 0), (1674, .iconst 1, 1, 0), (1675, .iadd, 0, 0), (1676, .iaload, 0, 0), (1677, .aload_n 0, 0, 0), (1678, .iload_n 3, 0, 0), (1679, .iconst 2, 2, 0), (1680, .iadd, 0, 0), (1681, .iaload, 0, 0), (1682, .aload_n 0, 0, 0), (1683, .iload_n 3, 0, 0), (1684, .iconst 3, 3, 0), (1685, .iadd, 0, 0), (1686, .iaload, 0, 0), (1687, .aload_n 0, 0, 0), (1688, .iload_n 3, 0, 0), (1689, .iconst 4, 4, 0), (1690, .iadd, 0, 0), (1691, .iaload, 0, 0), (1692, .aload_n 0, 0, 0), (1693, .iload_n 3, 0, 0), (1694, .iconst 5, 5, 0), (1695, .iadd, 0, 0), (1696, .iaload, 0, 0), (1697, .invokevirtual 180, 111, 6)], 1700)]
theorem tLa40 : z_chkM 279 bLa40 = true := by decide +kernel
def bLb40 : List BK := [(1700, [(1700, .aload_n 2, 0, 0), (1701, .aload_n 0, 0, 0), (1702, .iload_n 3, 0, 0), (1703, .iconst 1, 1, 0), (1704, .iadd, 0, 0), (1705, .iaload, 0, 0), (1706, .aload_n 0, 0, 0), (1707, .iload_n 3, 0, 0), (1708, .iconst 2, 2, 0), (1709, .iadd, 0, 0), (1710, .iaload, 0, 0), (1711, .aload_n 0, 0, 0), (1712, .iload_n 3, 0, 0), (1713, .iconst 3, 3, 0), (1714, .iadd, 0, 0), (1715, .iaload, 0, 0), (1716, .aload_n 0, 0, 0), (1717, .iload_n 3, 0, 0), (1718, .iconst 4, 4, 0), (1719, .iadd, 0, 0), (1720, .iaload, 0, 0), (1721, .aload_n 0, 0, 0), (1722, .iload_n 3, 0, 0), (1723, .iconst 5, 5, 0), (1724, .iadd, 0, 0), (1725, .iaload, 0, 0), (1726, .invokevirtual 183, 260, 6), (1729, .if_icmp .eq 51, 1780, 0)], 1732),
  (1732, [(1732, .iconst 0, 0, 0), (1733, .ireturn, 0, 0)], 1734)]
theorem tLb40 : z_chkM 279 bLb40 = true := by decide +kernel
def bLa41 : List BK := [(1734, [(1734, .aload_n 1, 0, 0), (1735, .aload_n 0, 0, 0), (1736, .iload_n 3, 0, 0), (1737, .iconst 1, 1, 0), (1738, .iadd, 0, 0), (1739, .iaload, 0, 0), (1740, .invokevirtual 184, 119, 2)], 1743)]
theorem tLa41 : z_chkM 279 bLa41 = true := by decide +kernel
def bLb41 : List BK := [(1743, [(1743, .aload_n 2, 0, 0), (1744, .aload_n 0, 0, 0), (1745, .iload_n 3, 0, 0), (1746, .iconst 1, 1, 0), (1747, .iadd, 0, 0), (1748, .iaload, 0, 0), (1749, .invokevirtual 187, 262, 2), (1752, .if_icmp .eq 28, 1780, 0)], 1755),
  (1755, [(1755, .iconst 0, 0, 0), (1756, .ireturn, 0, 0)], 1757)]
theorem tLb41 : z_chkM 279 bLb41 = true := by decide +kernel
def bLa42 : List BK := [(1757, [(1757, .aload_n 1, 0, 0), (1758, .aload_n 0, 0, 0), (1759, .iload_n 3, 0, 0), (1760, .iconst 1, 1, 0), (1761, .iadd, 0, 0), (1762, .iaload, 0, 0), (1763, .invokevirtual 188, 120, 2)], 1766)]
theorem tLa42 : z_chkM 279 bLa42 = true := by decide +kernel
def bLb42 : List BK := [(1766, [(1766, .aload_n 2, 0, 0), (1767, .aload_n 0, 0, 0), (1768, .iload_n 3, 0, 0), (1769, .iconst 1, 1, 0), (1770, .iadd, 0, 0), (1771, .iaload, 0, 0), (1772, .invokevirtual 191, 211, 2), (1775, .if_icmp .eq 5, 1780, 0)], 1778),
  (1778, [(1778, .iconst 0, 0, 0), (1779, .ireturn, 0, 0)], 1780)]
theorem tLb42 : z_chkM 279 bLb42 = true := by decide +kernel
